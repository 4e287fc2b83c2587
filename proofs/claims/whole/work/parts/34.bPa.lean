/-! stretches of bytecode as conditions: Pa -/
theorem d_Pa_declarations_41 : decode m_Pa_declarations.2.1 41 = .ok (.aload_n 0, 1) := by decide +kernel
theorem d_Pa_declarations_42 : decode m_Pa_declarations.2.1 42 = .ok (.invokevirtual 87, 3) := by decide +kernel
theorem d_Pa_declarations_45 : decode m_Pa_declarations.2.1 45 = .ok (.istore_n 1, 1) := by decide +kernel
theorem d_Pa_declarations_46 : decode m_Pa_declarations.2.1 46 = .ok (.iinc 2 1, 3) := by decide +kernel
theorem d_Pa_declarations_49 : decode m_Pa_declarations.2.1 49 = .ok (.goto (-45), 3) := by decide +kernel
theorem d_Pa_declarations_52 : decode m_Pa_declarations.2.1 52 = .ok (.iload_n 1, 1) := by decide +kernel
theorem d_Pa_declarations_53 : decode m_Pa_declarations.2.1 53 = .ok (.ireturn, 1) := by decide +kernel
theorem d_Pa_declaration_0 : decode m_Pa_declaration.2.1 0 = .ok (.aload_n 0, 1) := by decide +kernel
theorem d_Pa_declaration_1 : decode m_Pa_declaration.2.1 1 = .ok (.getfield 33, 3) := by decide +kernel
theorem d_Pa_declaration_4 : decode m_Pa_declaration.2.1 4 = .ok (.invokevirtual 75, 3) := by decide +kernel
theorem d_Pa_declaration_7 : decode m_Pa_declaration.2.1 7 = .ok (.bipush 39, 2) := by decide +kernel
theorem d_Pa_declaration_9 : decode m_Pa_declaration.2.1 9 = .ok (.if_icmp .ne 7, 3) := by decide +kernel
theorem d_Pa_declaration_12 : decode m_Pa_declaration.2.1 12 = .ok (.iconst 1, 1) := by decide +kernel
theorem d_Pa_declaration_13 : decode m_Pa_declaration.2.1 13 = .ok (.goto 4, 3) := by decide +kernel
theorem d_Pa_declaration_16 : decode m_Pa_declaration.2.1 16 = .ok (.iconst 0, 1) := by decide +kernel
theorem d_Pa_declaration_17 : decode m_Pa_declaration.2.1 17 = .ok (.istore_n 1, 1) := by decide +kernel
theorem d_Pa_declaration_18 : decode m_Pa_declaration.2.1 18 = .ok (.aload_n 0, 1) := by decide +kernel
theorem d_Pa_declaration_19 : decode m_Pa_declaration.2.1 19 = .ok (.getfield 33, 3) := by decide +kernel
theorem d_Pa_declaration_22 : decode m_Pa_declaration.2.1 22 = .ok (.invokevirtual 78, 3) := by decide +kernel
theorem d_Pa_declaration_25 : decode m_Pa_declaration.2.1 25 = .ok (.aload_n 0, 1) := by decide +kernel
theorem d_Pa_declaration_26 : decode m_Pa_declaration.2.1 26 = .ok (.getfield 33, 3) := by decide +kernel
theorem d_Pa_declaration_29 : decode m_Pa_declaration.2.1 29 = .ok (.invokevirtual 91, 3) := by decide +kernel
theorem d_Pa_declaration_32 : decode m_Pa_declaration.2.1 32 = .ok (.lstore_n 2, 1) := by decide +kernel
theorem d_Pa_declaration_33 : decode m_Pa_declaration.2.1 33 = .ok (.aload_n 0, 1) := by decide +kernel
theorem d_Pa_declaration_34 : decode m_Pa_declaration.2.1 34 = .ok (.getfield 33, 3) := by decide +kernel
theorem d_Pa_declaration_37 : decode m_Pa_declaration.2.1 37 = .ok (.invokevirtual 56, 3) := by decide +kernel
theorem d_Pa_declaration_40 : decode m_Pa_declaration.2.1 40 = .ok (.istore 4, 2) := by decide +kernel
theorem d_Pa_declaration_42 : decode m_Pa_declaration.2.1 42 = .ok (.aload_n 0, 1) := by decide +kernel
theorem d_Pa_declaration_43 : decode m_Pa_declaration.2.1 43 = .ok (.bipush 30, 2) := by decide +kernel
theorem d_Pa_declaration_45 : decode m_Pa_declaration.2.1 45 = .ok (.invokevirtual 95, 3) := by decide +kernel
theorem d_Pa_declaration_48 : decode m_Pa_declaration.2.1 48 = .ok (.ifCond .eq 12, 3) := by decide +kernel
theorem d_Pa_declaration_51 : decode m_Pa_declaration.2.1 51 = .ok (.aload_n 0, 1) := by decide +kernel
theorem d_Pa_declaration_52 : decode m_Pa_declaration.2.1 52 = .ok (.bipush 33, 2) := by decide +kernel
theorem d_Pa_declaration_54 : decode m_Pa_declaration.2.1 54 = .ok (.invokevirtual 95, 3) := by decide +kernel
theorem d_Pa_declaration_57 : decode m_Pa_declaration.2.1 57 = .ok (.ifCond .ne 5, 3) := by decide +kernel
theorem d_Pa_declaration_60 : decode m_Pa_declaration.2.1 60 = .ok (.iconst 0, 1) := by decide +kernel
theorem d_Pa_declaration_61 : decode m_Pa_declaration.2.1 61 = .ok (.ireturn, 1) := by decide +kernel
theorem d_Pa_declaration_62 : decode m_Pa_declaration.2.1 62 = .ok (.aload_n 0, 1) := by decide +kernel
theorem d_Pa_declaration_63 : decode m_Pa_declaration.2.1 63 = .ok (.getfield 33, 3) := by decide +kernel
theorem d_Pa_declaration_66 : decode m_Pa_declaration.2.1 66 = .ok (.invokevirtual 99, 3) := by decide +kernel
theorem d_Pa_declaration_69 : decode m_Pa_declaration.2.1 69 = .ok (.istore 5, 2) := by decide +kernel
theorem d_Pa_declaration_71 : decode m_Pa_declaration.2.1 71 = .ok (.aload_n 0, 1) := by decide +kernel
theorem d_Pa_declaration_72 : decode m_Pa_declaration.2.1 72 = .ok (.getfield 33, 3) := by decide +kernel
theorem d_Pa_declaration_75 : decode m_Pa_declaration.2.1 75 = .ok (.invokevirtual 56, 3) := by decide +kernel
theorem d_Pa_declaration_78 : decode m_Pa_declaration.2.1 78 = .ok (.istore 6, 2) := by decide +kernel
theorem d_Pa_declaration_80 : decode m_Pa_declaration.2.1 80 = .ok (.aload_n 0, 1) := by decide +kernel
theorem d_Pa_declaration_81 : decode m_Pa_declaration.2.1 81 = .ok (.bipush 23, 2) := by decide +kernel
theorem d_Pa_declaration_83 : decode m_Pa_declaration.2.1 83 = .ok (.invokevirtual 95, 3) := by decide +kernel
theorem d_Pa_declaration_86 : decode m_Pa_declaration.2.1 86 = .ok (.ifCond .eq 12, 3) := by decide +kernel
theorem d_Pa_declaration_89 : decode m_Pa_declaration.2.1 89 = .ok (.aload_n 0, 1) := by decide +kernel
theorem d_Pa_declaration_90 : decode m_Pa_declaration.2.1 90 = .ok (.bipush 32, 2) := by decide +kernel
theorem d_Pa_declaration_92 : decode m_Pa_declaration.2.1 92 = .ok (.invokevirtual 95, 3) := by decide +kernel
theorem d_Pa_declaration_95 : decode m_Pa_declaration.2.1 95 = .ok (.ifCond .ne 5, 3) := by decide +kernel
theorem d_Pa_declaration_98 : decode m_Pa_declaration.2.1 98 = .ok (.iconst 0, 1) := by decide +kernel
theorem d_Pa_declaration_99 : decode m_Pa_declaration.2.1 99 = .ok (.ireturn, 1) := by decide +kernel
theorem d_Pa_declaration_100 : decode m_Pa_declaration.2.1 100 = .ok (.aload_n 0, 1) := by decide +kernel
theorem d_Pa_declaration_101 : decode m_Pa_declaration.2.1 101 = .ok (.getfield 37, 3) := by decide +kernel
theorem d_Pa_declaration_104 : decode m_Pa_declaration.2.1 104 = .ok (.lload_n 2, 1) := by decide +kernel
theorem d_Pa_declaration_105 : decode m_Pa_declaration.2.1 105 = .ok (.invokevirtual 102, 3) := by decide +kernel
theorem d_Pa_declaration_108 : decode m_Pa_declaration.2.1 108 = .ok (.iconst (-1), 1) := by decide +kernel
theorem d_Pa_declaration_109 : decode m_Pa_declaration.2.1 109 = .ok (.if_icmp .eq 16, 3) := by decide +kernel
theorem d_Pa_declaration_112 : decode m_Pa_declaration.2.1 112 = .ok (.aload_n 0, 1) := by decide +kernel
theorem d_Pa_declaration_113 : decode m_Pa_declaration.2.1 113 = .ok (.getfield 37, 3) := by decide +kernel
theorem d_Pa_declaration_116 : decode m_Pa_declaration.2.1 116 = .ok (.iconst 3, 1) := by decide +kernel
theorem d_Pa_declaration_117 : decode m_Pa_declaration.2.1 117 = .ok (.iload 4, 2) := by decide +kernel
theorem d_Pa_declaration_119 : decode m_Pa_declaration.2.1 119 = .ok (.invokevirtual 71, 3) := by decide +kernel
theorem d_Pa_declaration_122 : decode m_Pa_declaration.2.1 122 = .ok (.goto 73, 3) := by decide +kernel
theorem d_Pa_declaration_125 : decode m_Pa_declaration.2.1 125 = .ok (.iload 5, 2) := by decide +kernel
theorem d_Pa_declaration_127 : decode m_Pa_declaration.2.1 127 = .ok (.iconst 1, 1) := by decide +kernel
theorem d_Pa_declaration_128 : decode m_Pa_declaration.2.1 128 = .ok (.if_icmp .lt 10, 3) := by decide +kernel
theorem d_Pa_declaration_131 : decode m_Pa_declaration.2.1 131 = .ok (.iload 5, 2) := by decide +kernel
theorem d_Pa_declaration_133 : decode m_Pa_declaration.2.1 133 = .ok (.bipush 8, 2) := by decide +kernel
theorem d_Pa_declaration_135 : decode m_Pa_declaration.2.1 135 = .ok (.if_icmp .le 16, 3) := by decide +kernel
theorem d_Pa_declaration_138 : decode m_Pa_declaration.2.1 138 = .ok (.aload_n 0, 1) := by decide +kernel
theorem d_Pa_declaration_139 : decode m_Pa_declaration.2.1 139 = .ok (.getfield 37, 3) := by decide +kernel
theorem d_Pa_declaration_142 : decode m_Pa_declaration.2.1 142 = .ok (.iconst 5, 1) := by decide +kernel
theorem d_Pa_declaration_143 : decode m_Pa_declaration.2.1 143 = .ok (.iload 6, 2) := by decide +kernel
theorem d_Pa_declaration_145 : decode m_Pa_declaration.2.1 145 = .ok (.invokevirtual 71, 3) := by decide +kernel
theorem d_Pa_declaration_148 : decode m_Pa_declaration.2.1 148 = .ok (.goto 47, 3) := by decide +kernel
theorem d_Pa_declaration_151 : decode m_Pa_declaration.2.1 151 = .ok (.iload_n 1, 1) := by decide +kernel
theorem d_Pa_declaration_152 : decode m_Pa_declaration.2.1 152 = .ok (.ifCond .eq 19, 3) := by decide +kernel
theorem d_Pa_declaration_155 : decode m_Pa_declaration.2.1 155 = .ok (.aload_n 0, 1) := by decide +kernel
theorem d_Pa_declaration_156 : decode m_Pa_declaration.2.1 156 = .ok (.getfield 37, 3) := by decide +kernel
theorem d_Pa_declaration_159 : decode m_Pa_declaration.2.1 159 = .ok (.lload_n 2, 1) := by decide +kernel
theorem d_Pa_declaration_160 : decode m_Pa_declaration.2.1 160 = .ok (.iload 5, 2) := by decide +kernel
theorem d_Pa_declaration_162 : decode m_Pa_declaration.2.1 162 = .ok (.invokevirtual 106, 3) := by decide +kernel
theorem d_Pa_declaration_165 : decode m_Pa_declaration.2.1 165 = .ok (.ifCond .eq 19, 3) := by decide +kernel
theorem d_Pa_declaration_168 : decode m_Pa_declaration.2.1 168 = .ok (.goto 27, 3) := by decide +kernel
theorem d_Pa_declaration_171 : decode m_Pa_declaration.2.1 171 = .ok (.aload_n 0, 1) := by decide +kernel
theorem d_Pa_declaration_172 : decode m_Pa_declaration.2.1 172 = .ok (.getfield 37, 3) := by decide +kernel
theorem d_Pa_declaration_175 : decode m_Pa_declaration.2.1 175 = .ok (.lload_n 2, 1) := by decide +kernel
theorem d_Pa_declaration_176 : decode m_Pa_declaration.2.1 176 = .ok (.iload 5, 2) := by decide +kernel
theorem d_Pa_declaration_178 : decode m_Pa_declaration.2.1 178 = .ok (.invokevirtual 110, 3) := by decide +kernel
theorem d_Pa_declaration_181 : decode m_Pa_declaration.2.1 181 = .ok (.ifCond .ne 14, 3) := by decide +kernel
theorem d_Pa_declaration_184 : decode m_Pa_declaration.2.1 184 = .ok (.aload_n 0, 1) := by decide +kernel
theorem d_Pa_declaration_185 : decode m_Pa_declaration.2.1 185 = .ok (.getfield 37, 3) := by decide +kernel
theorem d_Pa_declaration_188 : decode m_Pa_declaration.2.1 188 = .ok (.bipush 6, 2) := by decide +kernel
theorem d_Pa_declaration_190 : decode m_Pa_declaration.2.1 190 = .ok (.iload 4, 2) := by decide +kernel
theorem d_Pa_declaration_192 : decode m_Pa_declaration.2.1 192 = .ok (.invokevirtual 71, 3) := by decide +kernel
theorem d_Pa_declaration_195 : decode m_Pa_declaration.2.1 195 = .ok (.iconst 1, 1) := by decide +kernel
theorem d_Pa_declaration_196 : decode m_Pa_declaration.2.1 196 = .ok (.ireturn, 1) := by decide +kernel
theorem d_Pa_accept_0 : decode m_Pa_accept.2.1 0 = .ok (.aload_n 0, 1) := by decide +kernel
theorem d_Pa_accept_1 : decode m_Pa_accept.2.1 1 = .ok (.getfield 33, 3) := by decide +kernel
theorem d_Pa_accept_4 : decode m_Pa_accept.2.1 4 = .ok (.invokevirtual 75, 3) := by decide +kernel
theorem d_Pa_accept_7 : decode m_Pa_accept.2.1 7 = .ok (.iload_n 1, 1) := by decide +kernel
theorem d_Pa_accept_8 : decode m_Pa_accept.2.1 8 = .ok (.if_icmp .eq 5, 3) := by decide +kernel
theorem d_Pa_accept_11 : decode m_Pa_accept.2.1 11 = .ok (.iconst 0, 1) := by decide +kernel
theorem d_Pa_accept_12 : decode m_Pa_accept.2.1 12 = .ok (.ireturn, 1) := by decide +kernel
theorem d_Pa_accept_13 : decode m_Pa_accept.2.1 13 = .ok (.aload_n 0, 1) := by decide +kernel
theorem d_Pa_accept_14 : decode m_Pa_accept.2.1 14 = .ok (.getfield 33, 3) := by decide +kernel
theorem d_Pa_accept_17 : decode m_Pa_accept.2.1 17 = .ok (.invokevirtual 78, 3) := by decide +kernel
theorem d_Pa_accept_20 : decode m_Pa_accept.2.1 20 = .ok (.iconst 1, 1) := by decide +kernel
theorem d_Pa_accept_21 : decode m_Pa_accept.2.1 21 = .ok (.ireturn, 1) := by decide +kernel
theorem d_Pa_statements_24 : decode m_Pa_statements.2.1 24 = .ok (.aload_n 0, 1) := by decide +kernel
theorem d_Pa_statements_25 : decode m_Pa_statements.2.1 25 = .ok (.getfield 33, 3) := by decide +kernel
theorem d_Pa_statements_28 : decode m_Pa_statements.2.1 28 = .ok (.invokevirtual 75, 3) := by decide +kernel
theorem d_Pa_statements_31 : decode m_Pa_statements.2.1 31 = .ok (.bipush 38, 2) := by decide +kernel
theorem d_Pa_statements_33 : decode m_Pa_statements.2.1 33 = .ok (.if_icmp .eq 5, 3) := by decide +kernel
theorem d_Pa_statements_36 : decode m_Pa_statements.2.1 36 = .ok (.iconst 0, 1) := by decide +kernel
theorem d_Pa_statements_37 : decode m_Pa_statements.2.1 37 = .ok (.ireturn, 1) := by decide +kernel
theorem d_Pa_statements_124 : decode m_Pa_statements.2.1 124 = .ok (.aload_n 0, 1) := by decide +kernel
theorem d_Pa_statements_125 : decode m_Pa_statements.2.1 125 = .ok (.invokevirtual 113, 3) := by decide +kernel
theorem d_Pa_statements_128 : decode m_Pa_statements.2.1 128 = .ok (.istore_n 1, 1) := by decide +kernel
theorem d_Pa_statements_129 : decode m_Pa_statements.2.1 129 = .ok (.goto 62, 3) := by decide +kernel
theorem d_Pa_statements_132 : decode m_Pa_statements.2.1 132 = .ok (.aload_n 0, 1) := by decide +kernel
theorem d_Pa_statements_133 : decode m_Pa_statements.2.1 133 = .ok (.invokevirtual 116, 3) := by decide +kernel
theorem d_Pa_statements_136 : decode m_Pa_statements.2.1 136 = .ok (.istore_n 1, 1) := by decide +kernel
theorem d_Pa_statements_137 : decode m_Pa_statements.2.1 137 = .ok (.goto 54, 3) := by decide +kernel
theorem d_Pa_statements_140 : decode m_Pa_statements.2.1 140 = .ok (.aload_n 0, 1) := by decide +kernel
theorem d_Pa_statements_141 : decode m_Pa_statements.2.1 141 = .ok (.getfield 33, 3) := by decide +kernel
theorem d_Pa_statements_144 : decode m_Pa_statements.2.1 144 = .ok (.invokevirtual 78, 3) := by decide +kernel
theorem d_Pa_statements_147 : decode m_Pa_statements.2.1 147 = .ok (.aload_n 0, 1) := by decide +kernel
theorem d_Pa_statements_148 : decode m_Pa_statements.2.1 148 = .ok (.iconst 1, 1) := by decide +kernel
theorem d_Pa_statements_149 : decode m_Pa_statements.2.1 149 = .ok (.iconst 0, 1) := by decide +kernel
theorem d_Pa_statements_150 : decode m_Pa_statements.2.1 150 = .ok (.iconst 0, 1) := by decide +kernel
theorem d_Pa_statements_151 : decode m_Pa_statements.2.1 151 = .ok (.iconst 0, 1) := by decide +kernel
theorem d_Pa_statements_152 : decode m_Pa_statements.2.1 152 = .ok (.invokevirtual 119, 3) := by decide +kernel
theorem d_Pa_statements_155 : decode m_Pa_statements.2.1 155 = .ok (.goto 36, 3) := by decide +kernel
theorem d_Pa_statements_158 : decode m_Pa_statements.2.1 158 = .ok (.aload_n 0, 1) := by decide +kernel
theorem d_Pa_statements_159 : decode m_Pa_statements.2.1 159 = .ok (.invokevirtual 123, 3) := by decide +kernel
theorem d_Pa_statements_162 : decode m_Pa_statements.2.1 162 = .ok (.istore_n 1, 1) := by decide +kernel
theorem d_Pa_statements_163 : decode m_Pa_statements.2.1 163 = .ok (.goto 28, 3) := by decide +kernel
theorem d_Pa_statements_189 : decode m_Pa_statements.2.1 189 = .ok (.iconst 0, 1) := by decide +kernel
theorem d_Pa_statements_191 : decode m_Pa_statements.2.1 191 = .ok (.iinc 2 1, 3) := by decide +kernel
theorem d_Pa_statements_194 : decode m_Pa_statements.2.1 194 = .ok (.goto (-190), 3) := by decide +kernel
theorem d_Pa_statements_197 : decode m_Pa_statements.2.1 197 = .ok (.iconst 0, 1) := by decide +kernel
theorem d_Pa_statements_198 : decode m_Pa_statements.2.1 198 = .ok (.ireturn, 1) := by decide +kernel
theorem d_Pa_simple_0 : decode m_Pa_simple.2.1 0 = .ok (.aload_n 0, 1) := by decide +kernel
theorem d_Pa_simple_1 : decode m_Pa_simple.2.1 1 = .ok (.getfield 33, 3) := by decide +kernel
theorem d_Pa_simple_4 : decode m_Pa_simple.2.1 4 = .ok (.invokevirtual 75, 3) := by decide +kernel
theorem d_Pa_simple_7 : decode m_Pa_simple.2.1 7 = .ok (.bipush 30, 2) := by decide +kernel
theorem d_Pa_simple_9 : decode m_Pa_simple.2.1 9 = .ok (.if_icmp .ne 7, 3) := by decide +kernel
theorem d_Pa_simple_12 : decode m_Pa_simple.2.1 12 = .ok (.iconst 1, 1) := by decide +kernel
theorem d_Pa_simple_13 : decode m_Pa_simple.2.1 13 = .ok (.goto 20, 3) := by decide +kernel
theorem d_Pa_simple_16 : decode m_Pa_simple.2.1 16 = .ok (.aload_n 0, 1) := by decide +kernel
theorem d_Pa_simple_17 : decode m_Pa_simple.2.1 17 = .ok (.getfield 33, 3) := by decide +kernel
theorem d_Pa_simple_20 : decode m_Pa_simple.2.1 20 = .ok (.invokevirtual 75, 3) := by decide +kernel
theorem d_Pa_simple_23 : decode m_Pa_simple.2.1 23 = .ok (.bipush 44, 2) := by decide +kernel
theorem d_Pa_simple_25 : decode m_Pa_simple.2.1 25 = .ok (.if_icmp .ne 7, 3) := by decide +kernel
theorem d_Pa_simple_28 : decode m_Pa_simple.2.1 28 = .ok (.iconst 2, 1) := by decide +kernel
theorem d_Pa_simple_29 : decode m_Pa_simple.2.1 29 = .ok (.goto 4, 3) := by decide +kernel
theorem d_Pa_simple_32 : decode m_Pa_simple.2.1 32 = .ok (.iconst 3, 1) := by decide +kernel
theorem d_Pa_simple_33 : decode m_Pa_simple.2.1 33 = .ok (.istore_n 1, 1) := by decide +kernel
theorem d_Pa_simple_34 : decode m_Pa_simple.2.1 34 = .ok (.iload_n 1, 1) := by decide +kernel
theorem d_Pa_simple_35 : decode m_Pa_simple.2.1 35 = .ok (.iconst 1, 1) := by decide +kernel
theorem d_Pa_simple_36 : decode m_Pa_simple.2.1 36 = .ok (.if_icmp .ne 10, 3) := by decide +kernel
theorem d_Pa_simple_39 : decode m_Pa_simple.2.1 39 = .ok (.aload_n 0, 1) := by decide +kernel
theorem d_Pa_simple_40 : decode m_Pa_simple.2.1 40 = .ok (.invokevirtual 130, 3) := by decide +kernel
theorem d_Pa_simple_43 : decode m_Pa_simple.2.1 43 = .ok (.goto 10, 3) := by decide +kernel
theorem d_Pa_simple_46 : decode m_Pa_simple.2.1 46 = .ok (.aload_n 0, 1) := by decide +kernel
theorem d_Pa_simple_47 : decode m_Pa_simple.2.1 47 = .ok (.getfield 37, 3) := by decide +kernel
theorem d_Pa_simple_50 : decode m_Pa_simple.2.1 50 = .ok (.getfield 133, 3) := by decide +kernel
theorem d_Pa_simple_53 : decode m_Pa_simple.2.1 53 = .ok (.istore_n 2, 1) := by decide +kernel
theorem d_Pa_simple_54 : decode m_Pa_simple.2.1 54 = .ok (.aload_n 0, 1) := by decide +kernel
theorem d_Pa_simple_55 : decode m_Pa_simple.2.1 55 = .ok (.getfield 33, 3) := by decide +kernel
theorem d_Pa_simple_58 : decode m_Pa_simple.2.1 58 = .ok (.invokevirtual 78, 3) := by decide +kernel
theorem d_Pa_simple_61 : decode m_Pa_simple.2.1 61 = .ok (.iload_n 1, 1) := by decide +kernel
theorem d_Pa_simple_62 : decode m_Pa_simple.2.1 62 = .ok (.iconst 1, 1) := by decide +kernel
theorem d_Pa_simple_63 : decode m_Pa_simple.2.1 63 = .ok (.if_icmp .ne 14, 3) := by decide +kernel
theorem d_Pa_simple_66 : decode m_Pa_simple.2.1 66 = .ok (.aload_n 0, 1) := by decide +kernel
theorem d_Pa_simple_67 : decode m_Pa_simple.2.1 67 = .ok (.bipush 31, 2) := by decide +kernel
theorem d_Pa_simple_69 : decode m_Pa_simple.2.1 69 = .ok (.invokevirtual 95, 3) := by decide +kernel
theorem d_Pa_simple_72 : decode m_Pa_simple.2.1 72 = .ok (.ifCond .ne 5, 3) := by decide +kernel
theorem d_Pa_simple_75 : decode m_Pa_simple.2.1 75 = .ok (.iconst 0, 1) := by decide +kernel
theorem d_Pa_simple_76 : decode m_Pa_simple.2.1 76 = .ok (.ireturn, 1) := by decide +kernel
theorem d_Pa_simple_77 : decode m_Pa_simple.2.1 77 = .ok (.aload_n 0, 1) := by decide +kernel
theorem d_Pa_simple_78 : decode m_Pa_simple.2.1 78 = .ok (.getfield 37, 3) := by decide +kernel
theorem d_Pa_simple_81 : decode m_Pa_simple.2.1 81 = .ok (.getfield 136, 3) := by decide +kernel
theorem d_Pa_simple_84 : decode m_Pa_simple.2.1 84 = .ok (.istore_n 3, 1) := by decide +kernel
theorem d_Pa_simple_85 : decode m_Pa_simple.2.1 85 = .ok (.aload_n 0, 1) := by decide +kernel
theorem d_Pa_simple_86 : decode m_Pa_simple.2.1 86 = .ok (.aload_n 0, 1) := by decide +kernel
theorem d_Pa_simple_87 : decode m_Pa_simple.2.1 87 = .ok (.getfield 46, 3) := by decide +kernel
theorem d_Pa_simple_90 : decode m_Pa_simple.2.1 90 = .ok (.invokevirtual 139, 3) := by decide +kernel
theorem d_Pa_simple_93 : decode m_Pa_simple.2.1 93 = .ok (.istore 4, 2) := by decide +kernel
theorem d_Pa_simple_95 : decode m_Pa_simple.2.1 95 = .ok (.iload 4, 2) := by decide +kernel
theorem d_Pa_simple_97 : decode m_Pa_simple.2.1 97 = .ok (.iconst (-1), 1) := by decide +kernel
theorem d_Pa_simple_98 : decode m_Pa_simple.2.1 98 = .ok (.if_icmp .eq 12, 3) := by decide +kernel
theorem d_Pa_simple_101 : decode m_Pa_simple.2.1 101 = .ok (.aload_n 0, 1) := by decide +kernel
theorem d_Pa_simple_102 : decode m_Pa_simple.2.1 102 = .ok (.bipush 32, 2) := by decide +kernel
theorem d_Pa_simple_104 : decode m_Pa_simple.2.1 104 = .ok (.invokevirtual 95, 3) := by decide +kernel
theorem d_Pa_simple_107 : decode m_Pa_simple.2.1 107 = .ok (.ifCond .ne 5, 3) := by decide +kernel
theorem d_Pa_simple_110 : decode m_Pa_simple.2.1 110 = .ok (.iconst 0, 1) := by decide +kernel
theorem d_Pa_simple_111 : decode m_Pa_simple.2.1 111 = .ok (.ireturn, 1) := by decide +kernel
theorem d_Pa_simple_112 : decode m_Pa_simple.2.1 112 = .ok (.iload_n 1, 1) := by decide +kernel
theorem d_Pa_simple_113 : decode m_Pa_simple.2.1 113 = .ok (.iconst 2, 1) := by decide +kernel
theorem d_Pa_simple_114 : decode m_Pa_simple.2.1 114 = .ok (.if_icmp .ne 16, 3) := by decide +kernel
theorem d_Pa_simple_117 : decode m_Pa_simple.2.1 117 = .ok (.aload_n 0, 1) := by decide +kernel
theorem d_Pa_simple_118 : decode m_Pa_simple.2.1 118 = .ok (.getfield 37, 3) := by decide +kernel
theorem d_Pa_simple_121 : decode m_Pa_simple.2.1 121 = .ok (.dup, 1) := by decide +kernel
theorem d_Pa_simple_122 : decode m_Pa_simple.2.1 122 = .ok (.getfield 133, 3) := by decide +kernel
theorem d_Pa_simple_125 : decode m_Pa_simple.2.1 125 = .ok (.iconst 1, 1) := by decide +kernel
theorem d_Pa_simple_126 : decode m_Pa_simple.2.1 126 = .ok (.iadd, 1) := by decide +kernel
theorem d_Pa_simple_127 : decode m_Pa_simple.2.1 127 = .ok (.putfield 133, 3) := by decide +kernel
theorem d_Pa_simple_130 : decode m_Pa_simple.2.1 130 = .ok (.aload_n 0, 1) := by decide +kernel
theorem d_Pa_simple_131 : decode m_Pa_simple.2.1 131 = .ok (.getfield 37, 3) := by decide +kernel
theorem d_Pa_simple_134 : decode m_Pa_simple.2.1 134 = .ok (.iload_n 1, 1) := by decide +kernel
theorem d_Pa_simple_135 : decode m_Pa_simple.2.1 135 = .ok (.iload_n 2, 1) := by decide +kernel
theorem d_Pa_simple_136 : decode m_Pa_simple.2.1 136 = .ok (.iload_n 3, 1) := by decide +kernel
theorem d_Pa_simple_137 : decode m_Pa_simple.2.1 137 = .ok (.invokevirtual 143, 3) := by decide +kernel
theorem d_Pa_simple_140 : decode m_Pa_simple.2.1 140 = .ok (.pop, 1) := by decide +kernel
theorem d_Pa_simple_141 : decode m_Pa_simple.2.1 141 = .ok (.aload_n 0, 1) := by decide +kernel
theorem d_Pa_simple_142 : decode m_Pa_simple.2.1 142 = .ok (.iload 4, 2) := by decide +kernel
theorem d_Pa_simple_144 : decode m_Pa_simple.2.1 144 = .ok (.bipush 8, 2) := by decide +kernel
theorem d_Pa_simple_146 : decode m_Pa_simple.2.1 146 = .ok (.iadd, 1) := by decide +kernel
theorem d_Pa_simple_147 : decode m_Pa_simple.2.1 147 = .ok (.invokevirtual 126, 3) := by decide +kernel
theorem d_Pa_simple_150 : decode m_Pa_simple.2.1 150 = .ok (.iconst 1, 1) := by decide +kernel
theorem d_Pa_simple_151 : decode m_Pa_simple.2.1 151 = .ok (.ireturn, 1) := by decide +kernel
theorem d_Pa_target_0 : decode m_Pa_target.2.1 0 = .ok (.aload_n 0, 1) := by decide +kernel
theorem d_Pa_target_1 : decode m_Pa_target.2.1 1 = .ok (.getfield 37, 3) := by decide +kernel
theorem d_Pa_target_4 : decode m_Pa_target.2.1 4 = .ok (.aload_n 0, 1) := by decide +kernel
theorem d_Pa_target_5 : decode m_Pa_target.2.1 5 = .ok (.getfield 33, 3) := by decide +kernel
theorem d_Pa_target_8 : decode m_Pa_target.2.1 8 = .ok (.invokevirtual 91, 3) := by decide +kernel
theorem d_Pa_target_11 : decode m_Pa_target.2.1 11 = .ok (.invokevirtual 102, 3) := by decide +kernel
theorem d_Pa_target_14 : decode m_Pa_target.2.1 14 = .ok (.istore_n 1, 1) := by decide +kernel
theorem d_Pa_target_15 : decode m_Pa_target.2.1 15 = .ok (.iload_n 1, 1) := by decide +kernel
theorem d_Pa_target_16 : decode m_Pa_target.2.1 16 = .ok (.iconst (-1), 1) := by decide +kernel
theorem d_Pa_target_17 : decode m_Pa_target.2.1 17 = .ok (.if_icmp .ne 21, 3) := by decide +kernel
theorem d_Pa_target_20 : decode m_Pa_target.2.1 20 = .ok (.aload_n 0, 1) := by decide +kernel
theorem d_Pa_target_21 : decode m_Pa_target.2.1 21 = .ok (.getfield 37, 3) := by decide +kernel
theorem d_Pa_target_24 : decode m_Pa_target.2.1 24 = .ok (.iconst 2, 1) := by decide +kernel
theorem d_Pa_target_25 : decode m_Pa_target.2.1 25 = .ok (.aload_n 0, 1) := by decide +kernel
theorem d_Pa_target_26 : decode m_Pa_target.2.1 26 = .ok (.getfield 33, 3) := by decide +kernel
theorem d_Pa_target_29 : decode m_Pa_target.2.1 29 = .ok (.invokevirtual 56, 3) := by decide +kernel
theorem d_Pa_target_32 : decode m_Pa_target.2.1 32 = .ok (.invokevirtual 71, 3) := by decide +kernel
theorem d_Pa_target_35 : decode m_Pa_target.2.1 35 = .ok (.goto 24, 3) := by decide +kernel
theorem d_Pa_target_38 : decode m_Pa_target.2.1 38 = .ok (.iload_n 1, 1) := by decide +kernel
theorem d_Pa_target_39 : decode m_Pa_target.2.1 39 = .ok (.bipush 12, 2) := by decide +kernel
theorem d_Pa_target_41 : decode m_Pa_target.2.1 41 = .ok (.if_icmp .ge 18, 3) := by decide +kernel
theorem d_Pa_target_44 : decode m_Pa_target.2.1 44 = .ok (.aload_n 0, 1) := by decide +kernel
theorem d_Pa_target_45 : decode m_Pa_target.2.1 45 = .ok (.getfield 37, 3) := by decide +kernel
theorem d_Pa_target_48 : decode m_Pa_target.2.1 48 = .ok (.iconst 4, 1) := by decide +kernel
theorem d_Pa_target_49 : decode m_Pa_target.2.1 49 = .ok (.aload_n 0, 1) := by decide +kernel
theorem d_Pa_target_50 : decode m_Pa_target.2.1 50 = .ok (.getfield 33, 3) := by decide +kernel
theorem d_Pa_target_53 : decode m_Pa_target.2.1 53 = .ok (.invokevirtual 56, 3) := by decide +kernel
theorem d_Pa_target_56 : decode m_Pa_target.2.1 56 = .ok (.invokevirtual 71, 3) := by decide +kernel
theorem d_Pa_target_59 : decode m_Pa_target.2.1 59 = .ok (.iconst 0, 1) := by decide +kernel
theorem d_Pa_target_60 : decode m_Pa_target.2.1 60 = .ok (.iload_n 1, 1) := by decide +kernel
theorem d_Pa_target_61 : decode m_Pa_target.2.1 61 = .ok (.bipush 12, 2) := by decide +kernel
theorem d_Pa_target_63 : decode m_Pa_target.2.1 63 = .ok (.isub, 1) := by decide +kernel
theorem d_Pa_target_64 : decode m_Pa_target.2.1 64 = .ok (.invokestatic 147, 3) := by decide +kernel
theorem d_Pa_target_67 : decode m_Pa_target.2.1 67 = .ok (.ireturn, 1) := by decide +kernel
theorem d_Pa_expression_0 : decode m_Pa_expression.2.1 0 = .ok (.aload_n 0, 1) := by decide +kernel
theorem d_Pa_expression_1 : decode m_Pa_expression.2.1 1 = .ok (.iload_n 1, 1) := by decide +kernel
theorem d_Pa_expression_2 : decode m_Pa_expression.2.1 2 = .ok (.putfield 174, 3) := by decide +kernel
theorem d_Pa_expression_5 : decode m_Pa_expression.2.1 5 = .ok (.aload_n 0, 1) := by decide +kernel
theorem d_Pa_expression_6 : decode m_Pa_expression.2.1 6 = .ok (.iconst 0, 1) := by decide +kernel
theorem d_Pa_expression_7 : decode m_Pa_expression.2.1 7 = .ok (.putfield 177, 3) := by decide +kernel
theorem d_Pa_expression_10 : decode m_Pa_expression.2.1 10 = .ok (.aload_n 0, 1) := by decide +kernel
theorem d_Pa_expression_11 : decode m_Pa_expression.2.1 11 = .ok (.iconst 0, 1) := by decide +kernel
theorem d_Pa_expression_12 : decode m_Pa_expression.2.1 12 = .ok (.putfield 180, 3) := by decide +kernel
theorem d_Pa_expression_15 : decode m_Pa_expression.2.1 15 = .ok (.aload_n 0, 1) := by decide +kernel
theorem d_Pa_expression_16 : decode m_Pa_expression.2.1 16 = .ok (.iconst 0, 1) := by decide +kernel
theorem d_Pa_expression_17 : decode m_Pa_expression.2.1 17 = .ok (.putfield 183, 3) := by decide +kernel
theorem d_Pa_expression_20 : decode m_Pa_expression.2.1 20 = .ok (.aload_n 0, 1) := by decide +kernel
theorem d_Pa_expression_21 : decode m_Pa_expression.2.1 21 = .ok (.invokevirtual 184, 3) := by decide +kernel
theorem d_Pa_expression_24 : decode m_Pa_expression.2.1 24 = .ok (.istore_n 2, 1) := by decide +kernel
theorem d_Pa_expression_25 : decode m_Pa_expression.2.1 25 = .ok (.iconst 0, 1) := by decide +kernel
theorem d_Pa_expression_26 : decode m_Pa_expression.2.1 26 = .ok (.istore_n 3, 1) := by decide +kernel
theorem d_Pa_expression_27 : decode m_Pa_expression.2.1 27 = .ok (.iload_n 3, 1) := by decide +kernel
theorem d_Pa_expression_28 : decode m_Pa_expression.2.1 28 = .ok (.sipush 4096, 3) := by decide +kernel
theorem d_Pa_expression_31 : decode m_Pa_expression.2.1 31 = .ok (.if_icmp .ge 25, 3) := by decide +kernel
theorem d_Pa_expression_34 : decode m_Pa_expression.2.1 34 = .ok (.iload_n 2, 1) := by decide +kernel
theorem d_Pa_expression_35 : decode m_Pa_expression.2.1 35 = .ok (.ifCond .eq 21, 3) := by decide +kernel
theorem d_Pa_expression_38 : decode m_Pa_expression.2.1 38 = .ok (.aload_n 0, 1) := by decide +kernel
theorem d_Pa_expression_39 : decode m_Pa_expression.2.1 39 = .ok (.invokevirtual 187, 3) := by decide +kernel
theorem d_Pa_expression_42 : decode m_Pa_expression.2.1 42 = .ok (.ifCond .eq 14, 3) := by decide +kernel
theorem d_Pa_expression_45 : decode m_Pa_expression.2.1 45 = .ok (.aload_n 0, 1) := by decide +kernel
theorem d_Pa_expression_46 : decode m_Pa_expression.2.1 46 = .ok (.invokevirtual 184, 3) := by decide +kernel
theorem d_Pa_expression_49 : decode m_Pa_expression.2.1 49 = .ok (.istore_n 2, 1) := by decide +kernel
theorem d_Pa_expression_50 : decode m_Pa_expression.2.1 50 = .ok (.iinc 3 1, 3) := by decide +kernel
theorem d_Pa_expression_53 : decode m_Pa_expression.2.1 53 = .ok (.goto (-26), 3) := by decide +kernel
theorem d_Pa_expression_56 : decode m_Pa_expression.2.1 56 = .ok (.iload_n 2, 1) := by decide +kernel
theorem d_Pa_expression_57 : decode m_Pa_expression.2.1 57 = .ok (.ifCond .eq 17, 3) := by decide +kernel
theorem d_Pa_expression_60 : decode m_Pa_expression.2.1 60 = .ok (.aload_n 0, 1) := by decide +kernel
theorem d_Pa_expression_61 : decode m_Pa_expression.2.1 61 = .ok (.getfield 177, 3) := by decide +kernel
theorem d_Pa_expression_64 : decode m_Pa_expression.2.1 64 = .ok (.ifCond .ne 10, 3) := by decide +kernel
theorem d_Pa_expression_67 : decode m_Pa_expression.2.1 67 = .ok (.aload_n 0, 1) := by decide +kernel
theorem d_Pa_expression_68 : decode m_Pa_expression.2.1 68 = .ok (.getfield 183, 3) := by decide +kernel
theorem d_Pa_expression_71 : decode m_Pa_expression.2.1 71 = .ok (.goto 4, 3) := by decide +kernel
theorem d_Pa_expression_74 : decode m_Pa_expression.2.1 74 = .ok (.iconst (-1), 1) := by decide +kernel
theorem d_Pa_expression_75 : decode m_Pa_expression.2.1 75 = .ok (.ireturn, 1) := by decide +kernel
theorem d_Pa_operand_0 : decode m_Pa_operand.2.1 0 = .ok (.iconst 0, 1) := by decide +kernel
theorem d_Pa_operand_1 : decode m_Pa_operand.2.1 1 = .ok (.istore_n 1, 1) := by decide +kernel
theorem d_Pa_operand_2 : decode m_Pa_operand.2.1 2 = .ok (.iload_n 1, 1) := by decide +kernel
theorem d_Pa_operand_3 : decode m_Pa_operand.2.1 3 = .ok (.sipush 4096, 3) := by decide +kernel
theorem d_Pa_operand_6 : decode m_Pa_operand.2.1 6 = .ok (.if_icmp .gt 154, 3) := by decide +kernel
theorem d_Pa_operand_9 : decode m_Pa_operand.2.1 9 = .ok (.aload_n 0, 1) := by decide +kernel
theorem d_Pa_operand_10 : decode m_Pa_operand.2.1 10 = .ok (.getfield 174, 3) := by decide +kernel
theorem d_Pa_operand_13 : decode m_Pa_operand.2.1 13 = .ok (.bipush 30, 2) := by decide +kernel
theorem d_Pa_operand_15 : decode m_Pa_operand.2.1 15 = .ok (.if_icmp .gt 145, 3) := by decide +kernel
theorem d_Pa_operand_18 : decode m_Pa_operand.2.1 18 = .ok (.aload_n 0, 1) := by decide +kernel
theorem d_Pa_operand_19 : decode m_Pa_operand.2.1 19 = .ok (.getfield 33, 3) := by decide +kernel
theorem d_Pa_operand_22 : decode m_Pa_operand.2.1 22 = .ok (.invokevirtual 75, 3) := by decide +kernel
theorem d_Pa_operand_25 : decode m_Pa_operand.2.1 25 = .ok (.lookupswitch 127 #[(15, 118), (19, 104), (20, 104), (23, 72), (30, 59), (35, 104)], 59) := by decide +kernel
theorem d_Pa_operand_84 : decode m_Pa_operand.2.1 84 = .ok (.aload_n 0, 1) := by decide +kernel
theorem d_Pa_operand_85 : decode m_Pa_operand.2.1 85 = .ok (.invokevirtual 190, 3) := by decide +kernel
theorem d_Pa_operand_88 : decode m_Pa_operand.2.1 88 = .ok (.aload_n 0, 1) := by decide +kernel
theorem d_Pa_operand_89 : decode m_Pa_operand.2.1 89 = .ok (.getfield 33, 3) := by decide +kernel
theorem d_Pa_operand_92 : decode m_Pa_operand.2.1 92 = .ok (.invokevirtual 78, 3) := by decide +kernel
theorem d_Pa_operand_95 : decode m_Pa_operand.2.1 95 = .ok (.iconst 1, 1) := by decide +kernel
theorem d_Pa_operand_96 : decode m_Pa_operand.2.1 96 = .ok (.ireturn, 1) := by decide +kernel
theorem d_Pa_operand_97 : decode m_Pa_operand.2.1 97 = .ok (.aload_n 0, 1) := by decide +kernel
theorem d_Pa_operand_98 : decode m_Pa_operand.2.1 98 = .ok (.bipush 23, 2) := by decide +kernel
theorem d_Pa_operand_100 : decode m_Pa_operand.2.1 100 = .ok (.aload_n 0, 1) := by decide +kernel
theorem d_Pa_operand_101 : decode m_Pa_operand.2.1 101 = .ok (.getfield 33, 3) := by decide +kernel
theorem d_Pa_operand_104 : decode m_Pa_operand.2.1 104 = .ok (.invokevirtual 99, 3) := by decide +kernel
theorem d_Pa_operand_107 : decode m_Pa_operand.2.1 107 = .ok (.aload_n 0, 1) := by decide +kernel
theorem d_Pa_operand_108 : decode m_Pa_operand.2.1 108 = .ok (.getfield 33, 3) := by decide +kernel
theorem d_Pa_operand_111 : decode m_Pa_operand.2.1 111 = .ok (.invokevirtual 99, 3) := by decide +kernel
theorem d_Pa_operand_114 : decode m_Pa_operand.2.1 114 = .ok (.invokestatic 193, 3) := by decide +kernel
theorem d_Pa_operand_117 : decode m_Pa_operand.2.1 117 = .ok (.invokevirtual 196, 3) := by decide +kernel
theorem d_Pa_operand_120 : decode m_Pa_operand.2.1 120 = .ok (.aload_n 0, 1) := by decide +kernel
theorem d_Pa_operand_121 : decode m_Pa_operand.2.1 121 = .ok (.getfield 33, 3) := by decide +kernel
theorem d_Pa_operand_124 : decode m_Pa_operand.2.1 124 = .ok (.invokevirtual 78, 3) := by decide +kernel
theorem d_Pa_operand_127 : decode m_Pa_operand.2.1 127 = .ok (.iconst 1, 1) := by decide +kernel
theorem d_Pa_operand_128 : decode m_Pa_operand.2.1 128 = .ok (.ireturn, 1) := by decide +kernel
theorem d_Pa_operand_129 : decode m_Pa_operand.2.1 129 = .ok (.aload_n 0, 1) := by decide +kernel
theorem d_Pa_operand_130 : decode m_Pa_operand.2.1 130 = .ok (.aload_n 0, 1) := by decide +kernel
theorem d_Pa_operand_131 : decode m_Pa_operand.2.1 131 = .ok (.getfield 33, 3) := by decide +kernel
theorem d_Pa_operand_134 : decode m_Pa_operand.2.1 134 = .ok (.invokevirtual 75, 3) := by decide +kernel
theorem d_Pa_operand_137 : decode m_Pa_operand.2.1 137 = .ok (.invokevirtual 200, 3) := by decide +kernel
theorem d_Pa_operand_140 : decode m_Pa_operand.2.1 140 = .ok (.goto 14, 3) := by decide +kernel
theorem d_Pa_operand_143 : decode m_Pa_operand.2.1 143 = .ok (.aload_n 0, 1) := by decide +kernel
theorem d_Pa_operand_144 : decode m_Pa_operand.2.1 144 = .ok (.bipush 21, 2) := by decide +kernel
theorem d_Pa_operand_146 : decode m_Pa_operand.2.1 146 = .ok (.invokevirtual 200, 3) := by decide +kernel
theorem d_Pa_operand_149 : decode m_Pa_operand.2.1 149 = .ok (.goto 5, 3) := by decide +kernel
theorem d_Pa_operand_152 : decode m_Pa_operand.2.1 152 = .ok (.iconst 0, 1) := by decide +kernel
theorem d_Pa_operand_153 : decode m_Pa_operand.2.1 153 = .ok (.ireturn, 1) := by decide +kernel
theorem d_Pa_operand_154 : decode m_Pa_operand.2.1 154 = .ok (.iinc 1 1, 3) := by decide +kernel
theorem d_Pa_operand_157 : decode m_Pa_operand.2.1 157 = .ok (.goto (-155), 3) := by decide +kernel
theorem d_Pa_operand_160 : decode m_Pa_operand.2.1 160 = .ok (.iconst 0, 1) := by decide +kernel
theorem d_Pa_operand_161 : decode m_Pa_operand.2.1 161 = .ok (.ireturn, 1) := by decide +kernel
theorem d_Pa_named_0 : decode m_Pa_named.2.1 0 = .ok (.aload_n 0, 1) := by decide +kernel
theorem d_Pa_named_1 : decode m_Pa_named.2.1 1 = .ok (.getfield 37, 3) := by decide +kernel
theorem d_Pa_named_4 : decode m_Pa_named.2.1 4 = .ok (.aload_n 0, 1) := by decide +kernel
theorem d_Pa_named_5 : decode m_Pa_named.2.1 5 = .ok (.getfield 33, 3) := by decide +kernel
theorem d_Pa_named_8 : decode m_Pa_named.2.1 8 = .ok (.invokevirtual 91, 3) := by decide +kernel
theorem d_Pa_named_11 : decode m_Pa_named.2.1 11 = .ok (.invokevirtual 102, 3) := by decide +kernel
theorem d_Pa_named_14 : decode m_Pa_named.2.1 14 = .ok (.istore_n 1, 1) := by decide +kernel
theorem d_Pa_named_15 : decode m_Pa_named.2.1 15 = .ok (.iload_n 1, 1) := by decide +kernel
theorem d_Pa_named_16 : decode m_Pa_named.2.1 16 = .ok (.iconst (-1), 1) := by decide +kernel
theorem d_Pa_named_17 : decode m_Pa_named.2.1 17 = .ok (.if_icmp .ne 29, 3) := by decide +kernel
theorem d_Pa_named_20 : decode m_Pa_named.2.1 20 = .ok (.aload_n 0, 1) := by decide +kernel
theorem d_Pa_named_21 : decode m_Pa_named.2.1 21 = .ok (.getfield 37, 3) := by decide +kernel
theorem d_Pa_named_24 : decode m_Pa_named.2.1 24 = .ok (.iconst 2, 1) := by decide +kernel
theorem d_Pa_named_25 : decode m_Pa_named.2.1 25 = .ok (.aload_n 0, 1) := by decide +kernel
theorem d_Pa_named_26 : decode m_Pa_named.2.1 26 = .ok (.getfield 33, 3) := by decide +kernel
theorem d_Pa_named_29 : decode m_Pa_named.2.1 29 = .ok (.invokevirtual 56, 3) := by decide +kernel
theorem d_Pa_named_32 : decode m_Pa_named.2.1 32 = .ok (.invokevirtual 71, 3) := by decide +kernel
theorem d_Pa_named_35 : decode m_Pa_named.2.1 35 = .ok (.aload_n 0, 1) := by decide +kernel
theorem d_Pa_named_36 : decode m_Pa_named.2.1 36 = .ok (.bipush 23, 2) := by decide +kernel
theorem d_Pa_named_38 : decode m_Pa_named.2.1 38 = .ok (.iconst 0, 1) := by decide +kernel
theorem d_Pa_named_39 : decode m_Pa_named.2.1 39 = .ok (.iconst 1, 1) := by decide +kernel
theorem d_Pa_named_40 : decode m_Pa_named.2.1 40 = .ok (.invokevirtual 196, 3) := by decide +kernel
theorem d_Pa_named_43 : decode m_Pa_named.2.1 43 = .ok (.goto 50, 3) := by decide +kernel
theorem d_Pa_named_46 : decode m_Pa_named.2.1 46 = .ok (.iload_n 1, 1) := by decide +kernel
theorem d_Pa_named_47 : decode m_Pa_named.2.1 47 = .ok (.bipush 12, 2) := by decide +kernel
theorem d_Pa_named_49 : decode m_Pa_named.2.1 49 = .ok (.if_icmp .ge 22, 3) := by decide +kernel
theorem d_Pa_named_52 : decode m_Pa_named.2.1 52 = .ok (.aload_n 0, 1) := by decide +kernel
theorem d_Pa_named_53 : decode m_Pa_named.2.1 53 = .ok (.bipush 24, 2) := by decide +kernel
theorem d_Pa_named_55 : decode m_Pa_named.2.1 55 = .ok (.iload_n 1, 1) := by decide +kernel
theorem d_Pa_named_56 : decode m_Pa_named.2.1 56 = .ok (.aload_n 0, 1) := by decide +kernel
theorem d_Pa_named_57 : decode m_Pa_named.2.1 57 = .ok (.getfield 37, 3) := by decide +kernel
theorem d_Pa_named_60 : decode m_Pa_named.2.1 60 = .ok (.getfield 203, 3) := by decide +kernel
theorem d_Pa_named_63 : decode m_Pa_named.2.1 63 = .ok (.iload_n 1, 1) := by decide +kernel
theorem d_Pa_named_64 : decode m_Pa_named.2.1 64 = .ok (.iaload, 1) := by decide +kernel
theorem d_Pa_named_65 : decode m_Pa_named.2.1 65 = .ok (.invokevirtual 196, 3) := by decide +kernel
theorem d_Pa_named_68 : decode m_Pa_named.2.1 68 = .ok (.goto 25, 3) := by decide +kernel
theorem d_Pa_named_71 : decode m_Pa_named.2.1 71 = .ok (.aload_n 0, 1) := by decide +kernel
theorem d_Pa_named_72 : decode m_Pa_named.2.1 72 = .ok (.bipush 25, 2) := by decide +kernel
theorem d_Pa_named_74 : decode m_Pa_named.2.1 74 = .ok (.iload_n 1, 1) := by decide +kernel
theorem d_Pa_named_75 : decode m_Pa_named.2.1 75 = .ok (.bipush 12, 2) := by decide +kernel
theorem d_Pa_named_77 : decode m_Pa_named.2.1 77 = .ok (.isub, 1) := by decide +kernel
theorem d_Pa_named_78 : decode m_Pa_named.2.1 78 = .ok (.aload_n 0, 1) := by decide +kernel
theorem d_Pa_named_79 : decode m_Pa_named.2.1 79 = .ok (.getfield 37, 3) := by decide +kernel
theorem d_Pa_named_82 : decode m_Pa_named.2.1 82 = .ok (.getfield 206, 3) := by decide +kernel
theorem d_Pa_named_85 : decode m_Pa_named.2.1 85 = .ok (.iload_n 1, 1) := by decide +kernel
theorem d_Pa_named_86 : decode m_Pa_named.2.1 86 = .ok (.bipush 12, 2) := by decide +kernel
theorem d_Pa_named_88 : decode m_Pa_named.2.1 88 = .ok (.isub, 1) := by decide +kernel
theorem d_Pa_named_89 : decode m_Pa_named.2.1 89 = .ok (.iaload, 1) := by decide +kernel
theorem d_Pa_named_90 : decode m_Pa_named.2.1 90 = .ok (.invokevirtual 196, 3) := by decide +kernel
theorem d_Pa_named_93 : decode m_Pa_named.2.1 93 = .ok (.return_, 1) := by decide +kernel
theorem d_Pa_push_0 : decode m_Pa_push.2.1 0 = .ok (.aload_n 0, 1) := by decide +kernel
theorem d_Pa_push_1 : decode m_Pa_push.2.1 1 = .ok (.getfield 180, 3) := by decide +kernel
theorem d_Pa_push_4 : decode m_Pa_push.2.1 4 = .ok (.sipush 400, 3) := by decide +kernel
theorem d_Pa_push_7 : decode m_Pa_push.2.1 7 = .ok (.if_icmp .ge 16, 3) := by decide +kernel
theorem d_Pa_push_10 : decode m_Pa_push.2.1 10 = .ok (.aload_n 0, 1) := by decide +kernel
theorem d_Pa_push_11 : decode m_Pa_push.2.1 11 = .ok (.getfield 37, 3) := by decide +kernel
theorem d_Pa_push_14 : decode m_Pa_push.2.1 14 = .ok (.getfield 136, 3) := by decide +kernel
theorem d_Pa_push_17 : decode m_Pa_push.2.1 17 = .ok (.sipush 4096, 3) := by decide +kernel
theorem d_Pa_push_20 : decode m_Pa_push.2.1 20 = .ok (.if_icmp .lt 4, 3) := by decide +kernel
theorem d_Pa_push_23 : decode m_Pa_push.2.1 23 = .ok (.return_, 1) := by decide +kernel
theorem d_Pa_push_24 : decode m_Pa_push.2.1 24 = .ok (.aload_n 0, 1) := by decide +kernel
theorem d_Pa_push_25 : decode m_Pa_push.2.1 25 = .ok (.getfield 30, 3) := by decide +kernel
theorem d_Pa_push_28 : decode m_Pa_push.2.1 28 = .ok (.aload_n 0, 1) := by decide +kernel
theorem d_Pa_push_29 : decode m_Pa_push.2.1 29 = .ok (.getfield 180, 3) := by decide +kernel
theorem d_Pa_push_32 : decode m_Pa_push.2.1 32 = .ok (.iload_n 3, 1) := by decide +kernel
theorem d_Pa_push_33 : decode m_Pa_push.2.1 33 = .ok (.iastore, 1) := by decide +kernel
theorem d_Pa_push_34 : decode m_Pa_push.2.1 34 = .ok (.aload_n 0, 1) := by decide +kernel
theorem d_Pa_push_35 : decode m_Pa_push.2.1 35 = .ok (.dup, 1) := by decide +kernel
theorem d_Pa_push_36 : decode m_Pa_push.2.1 36 = .ok (.getfield 180, 3) := by decide +kernel
theorem d_Pa_push_39 : decode m_Pa_push.2.1 39 = .ok (.iconst 1, 1) := by decide +kernel
theorem d_Pa_push_40 : decode m_Pa_push.2.1 40 = .ok (.iadd, 1) := by decide +kernel
theorem d_Pa_push_41 : decode m_Pa_push.2.1 41 = .ok (.putfield 180, 3) := by decide +kernel
theorem d_Pa_push_44 : decode m_Pa_push.2.1 44 = .ok (.aload_n 0, 1) := by decide +kernel
theorem d_Pa_push_45 : decode m_Pa_push.2.1 45 = .ok (.getfield 37, 3) := by decide +kernel
theorem d_Pa_push_48 : decode m_Pa_push.2.1 48 = .ok (.getfield 136, 3) := by decide +kernel
theorem d_Pa_push_51 : decode m_Pa_push.2.1 51 = .ok (.istore 4, 2) := by decide +kernel
theorem d_Pa_push_53 : decode m_Pa_push.2.1 53 = .ok (.aload_n 0, 1) := by decide +kernel
theorem d_Pa_push_54 : decode m_Pa_push.2.1 54 = .ok (.getfield 37, 3) := by decide +kernel
theorem d_Pa_push_57 : decode m_Pa_push.2.1 57 = .ok (.getfield 209, 3) := by decide +kernel
theorem d_Pa_push_60 : decode m_Pa_push.2.1 60 = .ok (.iload 4, 2) := by decide +kernel
theorem d_Pa_push_62 : decode m_Pa_push.2.1 62 = .ok (.iload_n 1, 1) := by decide +kernel
theorem d_Pa_push_63 : decode m_Pa_push.2.1 63 = .ok (.iastore, 1) := by decide +kernel
theorem d_Pa_push_64 : decode m_Pa_push.2.1 64 = .ok (.aload_n 0, 1) := by decide +kernel
theorem d_Pa_push_65 : decode m_Pa_push.2.1 65 = .ok (.getfield 37, 3) := by decide +kernel
theorem d_Pa_push_68 : decode m_Pa_push.2.1 68 = .ok (.getfield 212, 3) := by decide +kernel
theorem d_Pa_push_71 : decode m_Pa_push.2.1 71 = .ok (.iload 4, 2) := by decide +kernel
theorem d_Pa_push_73 : decode m_Pa_push.2.1 73 = .ok (.iload_n 2, 1) := by decide +kernel
theorem d_Pa_push_74 : decode m_Pa_push.2.1 74 = .ok (.iastore, 1) := by decide +kernel
theorem d_Pa_push_75 : decode m_Pa_push.2.1 75 = .ok (.aload_n 0, 1) := by decide +kernel
theorem d_Pa_push_76 : decode m_Pa_push.2.1 76 = .ok (.getfield 37, 3) := by decide +kernel
theorem d_Pa_push_79 : decode m_Pa_push.2.1 79 = .ok (.getfield 214, 3) := by decide +kernel
theorem d_Pa_push_82 : decode m_Pa_push.2.1 82 = .ok (.iload 4, 2) := by decide +kernel
theorem d_Pa_push_84 : decode m_Pa_push.2.1 84 = .ok (.iload_n 3, 1) := by decide +kernel
theorem d_Pa_push_85 : decode m_Pa_push.2.1 85 = .ok (.iastore, 1) := by decide +kernel
theorem d_Pa_push_86 : decode m_Pa_push.2.1 86 = .ok (.aload_n 0, 1) := by decide +kernel
theorem d_Pa_push_87 : decode m_Pa_push.2.1 87 = .ok (.getfield 37, 3) := by decide +kernel
theorem d_Pa_push_90 : decode m_Pa_push.2.1 90 = .ok (.dup, 1) := by decide +kernel
theorem d_Pa_push_91 : decode m_Pa_push.2.1 91 = .ok (.getfield 136, 3) := by decide +kernel
theorem d_Pa_push_94 : decode m_Pa_push.2.1 94 = .ok (.iconst 1, 1) := by decide +kernel
theorem d_Pa_push_95 : decode m_Pa_push.2.1 95 = .ok (.iadd, 1) := by decide +kernel
theorem d_Pa_push_96 : decode m_Pa_push.2.1 96 = .ok (.putfield 136, 3) := by decide +kernel
theorem d_Pa_push_99 : decode m_Pa_push.2.1 99 = .ok (.return_, 1) := by decide +kernel
theorem d_Pa_leastWidth_0 : decode m_Pa_leastWidth.2.1 0 = .ok (.iconst 1, 1) := by decide +kernel
theorem d_Pa_leastWidth_1 : decode m_Pa_leastWidth.2.1 1 = .ok (.istore_n 1, 1) := by decide +kernel
theorem d_Pa_leastWidth_2 : decode m_Pa_leastWidth.2.1 2 = .ok (.iload_n 1, 1) := by decide +kernel
theorem d_Pa_leastWidth_3 : decode m_Pa_leastWidth.2.1 3 = .ok (.bipush 8, 2) := by decide +kernel
theorem d_Pa_leastWidth_5 : decode m_Pa_leastWidth.2.1 5 = .ok (.if_icmp .ge 15, 3) := by decide +kernel
theorem d_Pa_leastWidth_8 : decode m_Pa_leastWidth.2.1 8 = .ok (.iload_n 0, 1) := by decide +kernel
theorem d_Pa_leastWidth_9 : decode m_Pa_leastWidth.2.1 9 = .ok (.iload_n 1, 1) := by decide +kernel
theorem d_Pa_leastWidth_10 : decode m_Pa_leastWidth.2.1 10 = .ok (.ishr, 1) := by decide +kernel
theorem d_Pa_leastWidth_11 : decode m_Pa_leastWidth.2.1 11 = .ok (.ifCond .eq 9, 3) := by decide +kernel
theorem d_Pa_leastWidth_14 : decode m_Pa_leastWidth.2.1 14 = .ok (.iinc 1 1, 3) := by decide +kernel
theorem d_Pa_leastWidth_17 : decode m_Pa_leastWidth.2.1 17 = .ok (.goto (-15), 3) := by decide +kernel
theorem d_Pa_leastWidth_20 : decode m_Pa_leastWidth.2.1 20 = .ok (.iload_n 1, 1) := by decide +kernel
theorem d_Pa_leastWidth_21 : decode m_Pa_leastWidth.2.1 21 = .ok (.ireturn, 1) := by decide +kernel
theorem d_Pa_deepen_0 : decode m_Pa_deepen.2.1 0 = .ok (.aload_n 0, 1) := by decide +kernel
theorem d_Pa_deepen_1 : decode m_Pa_deepen.2.1 1 = .ok (.iload_n 1, 1) := by decide +kernel
theorem d_Pa_deepen_2 : decode m_Pa_deepen.2.1 2 = .ok (.invokevirtual 217, 3) := by decide +kernel
theorem d_Pa_deepen_5 : decode m_Pa_deepen.2.1 5 = .ok (.aload_n 0, 1) := by decide +kernel
theorem d_Pa_deepen_6 : decode m_Pa_deepen.2.1 6 = .ok (.dup, 1) := by decide +kernel
theorem d_Pa_deepen_7 : decode m_Pa_deepen.2.1 7 = .ok (.getfield 174, 3) := by decide +kernel
theorem d_Pa_deepen_10 : decode m_Pa_deepen.2.1 10 = .ok (.iconst 1, 1) := by decide +kernel
theorem d_Pa_deepen_11 : decode m_Pa_deepen.2.1 11 = .ok (.iadd, 1) := by decide +kernel
theorem d_Pa_deepen_12 : decode m_Pa_deepen.2.1 12 = .ok (.putfield 174, 3) := by decide +kernel
theorem d_Pa_deepen_15 : decode m_Pa_deepen.2.1 15 = .ok (.aload_n 0, 1) := by decide +kernel
theorem d_Pa_deepen_16 : decode m_Pa_deepen.2.1 16 = .ok (.getfield 33, 3) := by decide +kernel
theorem d_Pa_deepen_19 : decode m_Pa_deepen.2.1 19 = .ok (.invokevirtual 78, 3) := by decide +kernel
theorem d_Pa_deepen_22 : decode m_Pa_deepen.2.1 22 = .ok (.return_, 1) := by decide +kernel
theorem d_Pa_pushSign_0 : decode m_Pa_pushSign.2.1 0 = .ok (.aload_n 0, 1) := by decide +kernel
theorem d_Pa_pushSign_1 : decode m_Pa_pushSign.2.1 1 = .ok (.getfield 177, 3) := by decide +kernel
theorem d_Pa_pushSign_4 : decode m_Pa_pushSign.2.1 4 = .ok (.sipush 400, 3) := by decide +kernel
theorem d_Pa_pushSign_7 : decode m_Pa_pushSign.2.1 7 = .ok (.if_icmp .ge 23, 3) := by decide +kernel
theorem d_Pa_pushSign_10 : decode m_Pa_pushSign.2.1 10 = .ok (.aload_n 0, 1) := by decide +kernel
theorem d_Pa_pushSign_11 : decode m_Pa_pushSign.2.1 11 = .ok (.getfield 27, 3) := by decide +kernel
theorem d_Pa_pushSign_14 : decode m_Pa_pushSign.2.1 14 = .ok (.aload_n 0, 1) := by decide +kernel
theorem d_Pa_pushSign_15 : decode m_Pa_pushSign.2.1 15 = .ok (.getfield 177, 3) := by decide +kernel
theorem d_Pa_pushSign_18 : decode m_Pa_pushSign.2.1 18 = .ok (.iload_n 1, 1) := by decide +kernel
theorem d_Pa_pushSign_19 : decode m_Pa_pushSign.2.1 19 = .ok (.iastore, 1) := by decide +kernel
theorem d_Pa_pushSign_20 : decode m_Pa_pushSign.2.1 20 = .ok (.aload_n 0, 1) := by decide +kernel
theorem d_Pa_pushSign_21 : decode m_Pa_pushSign.2.1 21 = .ok (.dup, 1) := by decide +kernel
theorem d_Pa_pushSign_22 : decode m_Pa_pushSign.2.1 22 = .ok (.getfield 177, 3) := by decide +kernel
theorem d_Pa_pushSign_25 : decode m_Pa_pushSign.2.1 25 = .ok (.iconst 1, 1) := by decide +kernel
theorem d_Pa_pushSign_26 : decode m_Pa_pushSign.2.1 26 = .ok (.iadd, 1) := by decide +kernel
theorem d_Pa_pushSign_27 : decode m_Pa_pushSign.2.1 27 = .ok (.putfield 177, 3) := by decide +kernel
theorem d_Pa_pushSign_30 : decode m_Pa_pushSign.2.1 30 = .ok (.return_, 1) := by decide +kernel
theorem d_Pa_follow_0 : decode m_Pa_follow.2.1 0 = .ok (.iconst 0, 1) := by decide +kernel
theorem d_Pa_follow_1 : decode m_Pa_follow.2.1 1 = .ok (.istore_n 1, 1) := by decide +kernel
theorem d_Pa_follow_2 : decode m_Pa_follow.2.1 2 = .ok (.iload_n 1, 1) := by decide +kernel
theorem d_Pa_follow_3 : decode m_Pa_follow.2.1 3 = .ok (.sipush 4096, 3) := by decide +kernel
theorem d_Pa_follow_6 : decode m_Pa_follow.2.1 6 = .ok (.if_icmp .gt 155, 3) := by decide +kernel
theorem d_Pa_follow_9 : decode m_Pa_follow.2.1 9 = .ok (.aload_n 0, 1) := by decide +kernel
theorem d_Pa_follow_10 : decode m_Pa_follow.2.1 10 = .ok (.getfield 33, 3) := by decide +kernel
theorem d_Pa_follow_13 : decode m_Pa_follow.2.1 13 = .ok (.invokevirtual 75, 3) := by decide +kernel
theorem d_Pa_follow_16 : decode m_Pa_follow.2.1 16 = .ok (.istore_n 2, 1) := by decide +kernel
theorem d_Pa_follow_17 : decode m_Pa_follow.2.1 17 = .ok (.iload_n 2, 1) := by decide +kernel
theorem d_Pa_follow_18 : decode m_Pa_follow.2.1 18 = .ok (.iconst 1, 1) := by decide +kernel
theorem d_Pa_follow_19 : decode m_Pa_follow.2.1 19 = .ok (.if_icmp .lt 32, 3) := by decide +kernel
theorem d_Pa_follow_22 : decode m_Pa_follow.2.1 22 = .ok (.iload_n 2, 1) := by decide +kernel
theorem d_Pa_follow_23 : decode m_Pa_follow.2.1 23 = .ok (.bipush 18, 2) := by decide +kernel
theorem d_Pa_follow_25 : decode m_Pa_follow.2.1 25 = .ok (.if_icmp .gt 26, 3) := by decide +kernel
theorem d_Pa_follow_28 : decode m_Pa_follow.2.1 28 = .ok (.aload_n 0, 1) := by decide +kernel
theorem d_Pa_follow_29 : decode m_Pa_follow.2.1 29 = .ok (.getstatic 220, 3) := by decide +kernel
theorem d_Pa_follow_32 : decode m_Pa_follow.2.1 32 = .ok (.iload_n 2, 1) := by decide +kernel
theorem d_Pa_follow_33 : decode m_Pa_follow.2.1 33 = .ok (.iaload, 1) := by decide +kernel
theorem d_Pa_follow_34 : decode m_Pa_follow.2.1 34 = .ok (.invokevirtual 223, 3) := by decide +kernel
theorem d_Pa_follow_37 : decode m_Pa_follow.2.1 37 = .ok (.aload_n 0, 1) := by decide +kernel
theorem d_Pa_follow_38 : decode m_Pa_follow.2.1 38 = .ok (.iload_n 2, 1) := by decide +kernel
theorem d_Pa_follow_39 : decode m_Pa_follow.2.1 39 = .ok (.invokevirtual 217, 3) := by decide +kernel
theorem d_Pa_follow_42 : decode m_Pa_follow.2.1 42 = .ok (.aload_n 0, 1) := by decide +kernel
theorem d_Pa_follow_43 : decode m_Pa_follow.2.1 43 = .ok (.getfield 33, 3) := by decide +kernel
theorem d_Pa_follow_46 : decode m_Pa_follow.2.1 46 = .ok (.invokevirtual 78, 3) := by decide +kernel
theorem d_Pa_follow_49 : decode m_Pa_follow.2.1 49 = .ok (.iconst 1, 1) := by decide +kernel
theorem d_Pa_follow_50 : decode m_Pa_follow.2.1 50 = .ok (.ireturn, 1) := by decide +kernel
theorem d_Pa_follow_51 : decode m_Pa_follow.2.1 51 = .ok (.aload_n 0, 1) := by decide +kernel
theorem d_Pa_follow_52 : decode m_Pa_follow.2.1 52 = .ok (.iconst 1, 1) := by decide +kernel
theorem d_Pa_follow_53 : decode m_Pa_follow.2.1 53 = .ok (.invokevirtual 223, 3) := by decide +kernel
theorem d_Pa_follow_56 : decode m_Pa_follow.2.1 56 = .ok (.iload_n 2, 1) := by decide +kernel
theorem d_Pa_follow_57 : decode m_Pa_follow.2.1 57 = .ok (.bipush 34, 2) := by decide +kernel
theorem d_Pa_follow_59 : decode m_Pa_follow.2.1 59 = .ok (.if_icmp .ne 11, 3) := by decide +kernel
theorem d_Pa_follow_62 : decode m_Pa_follow.2.1 62 = .ok (.aload_n 0, 1) := by decide +kernel
theorem d_Pa_follow_63 : decode m_Pa_follow.2.1 63 = .ok (.bipush 34, 2) := by decide +kernel
theorem d_Pa_follow_65 : decode m_Pa_follow.2.1 65 = .ok (.invokevirtual 200, 3) := by decide +kernel
theorem d_Pa_follow_68 : decode m_Pa_follow.2.1 68 = .ok (.iconst 1, 1) := by decide +kernel
theorem d_Pa_follow_69 : decode m_Pa_follow.2.1 69 = .ok (.ireturn, 1) := by decide +kernel
theorem d_Pa_follow_70 : decode m_Pa_follow.2.1 70 = .ok (.aload_n 0, 1) := by decide +kernel
theorem d_Pa_follow_71 : decode m_Pa_follow.2.1 71 = .ok (.invokevirtual 226, 3) := by decide +kernel
theorem d_Pa_follow_74 : decode m_Pa_follow.2.1 74 = .ok (.iload_n 2, 1) := by decide +kernel
theorem d_Pa_follow_75 : decode m_Pa_follow.2.1 75 = .ok (.bipush 33, 2) := by decide +kernel
theorem d_Pa_follow_77 : decode m_Pa_follow.2.1 77 = .ok (.if_icmp .ne 34, 3) := by decide +kernel
theorem d_Pa_follow_80 : decode m_Pa_follow.2.1 80 = .ok (.aload_n 0, 1) := by decide +kernel
theorem d_Pa_follow_81 : decode m_Pa_follow.2.1 81 = .ok (.invokevirtual 229, 3) := by decide +kernel
theorem d_Pa_follow_84 : decode m_Pa_follow.2.1 84 = .ok (.bipush 34, 2) := by decide +kernel
theorem d_Pa_follow_86 : decode m_Pa_follow.2.1 86 = .ok (.if_icmp .ne 25, 3) := by decide +kernel
theorem d_Pa_follow_89 : decode m_Pa_follow.2.1 89 = .ok (.aload_n 0, 1) := by decide +kernel
theorem d_Pa_follow_90 : decode m_Pa_follow.2.1 90 = .ok (.getfield 27, 3) := by decide +kernel
theorem d_Pa_follow_93 : decode m_Pa_follow.2.1 93 = .ok (.aload_n 0, 1) := by decide +kernel
theorem d_Pa_follow_94 : decode m_Pa_follow.2.1 94 = .ok (.getfield 177, 3) := by decide +kernel
theorem d_Pa_follow_97 : decode m_Pa_follow.2.1 97 = .ok (.iconst 1, 1) := by decide +kernel
theorem d_Pa_follow_98 : decode m_Pa_follow.2.1 98 = .ok (.isub, 1) := by decide +kernel
theorem d_Pa_follow_99 : decode m_Pa_follow.2.1 99 = .ok (.bipush 33, 2) := by decide +kernel
theorem d_Pa_follow_101 : decode m_Pa_follow.2.1 101 = .ok (.iastore, 1) := by decide +kernel
theorem d_Pa_follow_102 : decode m_Pa_follow.2.1 102 = .ok (.aload_n 0, 1) := by decide +kernel
theorem d_Pa_follow_103 : decode m_Pa_follow.2.1 103 = .ok (.getfield 33, 3) := by decide +kernel
theorem d_Pa_follow_106 : decode m_Pa_follow.2.1 106 = .ok (.invokevirtual 78, 3) := by decide +kernel
theorem d_Pa_follow_109 : decode m_Pa_follow.2.1 109 = .ok (.iconst 1, 1) := by decide +kernel
theorem d_Pa_follow_110 : decode m_Pa_follow.2.1 110 = .ok (.ireturn, 1) := by decide +kernel
theorem d_Pa_follow_111 : decode m_Pa_follow.2.1 111 = .ok (.iload_n 2, 1) := by decide +kernel
theorem d_Pa_follow_112 : decode m_Pa_follow.2.1 112 = .ok (.bipush 36, 2) := by decide +kernel
theorem d_Pa_follow_114 : decode m_Pa_follow.2.1 114 = .ok (.if_icmp .ne 12, 3) := by decide +kernel
theorem d_Pa_follow_117 : decode m_Pa_follow.2.1 117 = .ok (.aload_n 0, 1) := by decide +kernel
theorem d_Pa_follow_118 : decode m_Pa_follow.2.1 118 = .ok (.invokevirtual 229, 3) := by decide +kernel
theorem d_Pa_follow_121 : decode m_Pa_follow.2.1 121 = .ok (.bipush 35, 2) := by decide +kernel
theorem d_Pa_follow_123 : decode m_Pa_follow.2.1 123 = .ok (.if_icmp .eq 5, 3) := by decide +kernel
theorem d_Pa_follow_126 : decode m_Pa_follow.2.1 126 = .ok (.iconst 0, 1) := by decide +kernel
theorem d_Pa_follow_127 : decode m_Pa_follow.2.1 127 = .ok (.ireturn, 1) := by decide +kernel
theorem d_Pa_follow_128 : decode m_Pa_follow.2.1 128 = .ok (.aload_n 0, 1) := by decide +kernel
theorem d_Pa_follow_129 : decode m_Pa_follow.2.1 129 = .ok (.dup, 1) := by decide +kernel
theorem d_Pa_follow_130 : decode m_Pa_follow.2.1 130 = .ok (.getfield 177, 3) := by decide +kernel
theorem d_Pa_follow_133 : decode m_Pa_follow.2.1 133 = .ok (.iconst 1, 1) := by decide +kernel
theorem d_Pa_follow_134 : decode m_Pa_follow.2.1 134 = .ok (.isub, 1) := by decide +kernel
theorem d_Pa_follow_135 : decode m_Pa_follow.2.1 135 = .ok (.putfield 177, 3) := by decide +kernel
theorem d_Pa_follow_138 : decode m_Pa_follow.2.1 138 = .ok (.aload_n 0, 1) := by decide +kernel
theorem d_Pa_follow_139 : decode m_Pa_follow.2.1 139 = .ok (.dup, 1) := by decide +kernel
theorem d_Pa_follow_140 : decode m_Pa_follow.2.1 140 = .ok (.getfield 174, 3) := by decide +kernel
theorem d_Pa_follow_143 : decode m_Pa_follow.2.1 143 = .ok (.iconst 1, 1) := by decide +kernel
theorem d_Pa_follow_144 : decode m_Pa_follow.2.1 144 = .ok (.isub, 1) := by decide +kernel
theorem d_Pa_follow_145 : decode m_Pa_follow.2.1 145 = .ok (.putfield 174, 3) := by decide +kernel
theorem d_Pa_follow_148 : decode m_Pa_follow.2.1 148 = .ok (.aload_n 0, 1) := by decide +kernel
theorem d_Pa_follow_149 : decode m_Pa_follow.2.1 149 = .ok (.getfield 33, 3) := by decide +kernel
theorem d_Pa_follow_152 : decode m_Pa_follow.2.1 152 = .ok (.invokevirtual 78, 3) := by decide +kernel
theorem d_Pa_follow_155 : decode m_Pa_follow.2.1 155 = .ok (.iinc 1 1, 3) := by decide +kernel
theorem d_Pa_follow_158 : decode m_Pa_follow.2.1 158 = .ok (.goto (-156), 3) := by decide +kernel
theorem d_Pa_follow_161 : decode m_Pa_follow.2.1 161 = .ok (.iconst 0, 1) := by decide +kernel
theorem d_Pa_follow_162 : decode m_Pa_follow.2.1 162 = .ok (.ireturn, 1) := by decide +kernel
theorem d_Pa_reduce_0 : decode m_Pa_reduce.2.1 0 = .ok (.aload_n 0, 1) := by decide +kernel
theorem d_Pa_reduce_1 : decode m_Pa_reduce.2.1 1 = .ok (.getfield 177, 3) := by decide +kernel
theorem d_Pa_reduce_4 : decode m_Pa_reduce.2.1 4 = .ok (.ifCond .le 64, 3) := by decide +kernel
theorem d_Pa_reduce_7 : decode m_Pa_reduce.2.1 7 = .ok (.aload_n 0, 1) := by decide +kernel
theorem d_Pa_reduce_8 : decode m_Pa_reduce.2.1 8 = .ok (.invokevirtual 229, 3) := by decide +kernel
theorem d_Pa_reduce_11 : decode m_Pa_reduce.2.1 11 = .ok (.bipush 21, 2) := by decide +kernel
theorem d_Pa_reduce_13 : decode m_Pa_reduce.2.1 13 = .ok (.if_icmp .gt 55, 3) := by decide +kernel
theorem d_Pa_reduce_16 : decode m_Pa_reduce.2.1 16 = .ok (.getstatic 220, 3) := by decide +kernel
theorem d_Pa_reduce_19 : decode m_Pa_reduce.2.1 19 = .ok (.aload_n 0, 1) := by decide +kernel
theorem d_Pa_reduce_20 : decode m_Pa_reduce.2.1 20 = .ok (.invokevirtual 229, 3) := by decide +kernel
theorem d_Pa_reduce_23 : decode m_Pa_reduce.2.1 23 = .ok (.iaload, 1) := by decide +kernel
theorem d_Pa_reduce_24 : decode m_Pa_reduce.2.1 24 = .ok (.iload_n 1, 1) := by decide +kernel
theorem d_Pa_reduce_25 : decode m_Pa_reduce.2.1 25 = .ok (.if_icmp .lt 43, 3) := by decide +kernel
theorem d_Pa_reduce_28 : decode m_Pa_reduce.2.1 28 = .ok (.aload_n 0, 1) := by decide +kernel
theorem d_Pa_reduce_29 : decode m_Pa_reduce.2.1 29 = .ok (.invokevirtual 229, 3) := by decide +kernel
theorem d_Pa_reduce_32 : decode m_Pa_reduce.2.1 32 = .ok (.bipush 19, 2) := by decide +kernel
theorem d_Pa_reduce_34 : decode m_Pa_reduce.2.1 34 = .ok (.if_icmp .lt 13, 3) := by decide +kernel
theorem d_Pa_reduce_37 : decode m_Pa_reduce.2.1 37 = .ok (.aload_n 0, 1) := by decide +kernel
theorem d_Pa_reduce_38 : decode m_Pa_reduce.2.1 38 = .ok (.dup, 1) := by decide +kernel
theorem d_Pa_reduce_39 : decode m_Pa_reduce.2.1 39 = .ok (.getfield 174, 3) := by decide +kernel
theorem d_Pa_reduce_42 : decode m_Pa_reduce.2.1 42 = .ok (.iconst 1, 1) := by decide +kernel
theorem d_Pa_reduce_43 : decode m_Pa_reduce.2.1 43 = .ok (.isub, 1) := by decide +kernel
theorem d_Pa_reduce_44 : decode m_Pa_reduce.2.1 44 = .ok (.putfield 174, 3) := by decide +kernel
theorem d_Pa_reduce_47 : decode m_Pa_reduce.2.1 47 = .ok (.aload_n 0, 1) := by decide +kernel
theorem d_Pa_reduce_48 : decode m_Pa_reduce.2.1 48 = .ok (.aload_n 0, 1) := by decide +kernel
theorem d_Pa_reduce_49 : decode m_Pa_reduce.2.1 49 = .ok (.invokevirtual 229, 3) := by decide +kernel
theorem d_Pa_reduce_52 : decode m_Pa_reduce.2.1 52 = .ok (.invokevirtual 232, 3) := by decide +kernel
theorem d_Pa_reduce_55 : decode m_Pa_reduce.2.1 55 = .ok (.aload_n 0, 1) := by decide +kernel
theorem d_Pa_reduce_56 : decode m_Pa_reduce.2.1 56 = .ok (.dup, 1) := by decide +kernel
theorem d_Pa_reduce_57 : decode m_Pa_reduce.2.1 57 = .ok (.getfield 177, 3) := by decide +kernel
theorem d_Pa_reduce_60 : decode m_Pa_reduce.2.1 60 = .ok (.iconst 1, 1) := by decide +kernel
theorem d_Pa_reduce_61 : decode m_Pa_reduce.2.1 61 = .ok (.isub, 1) := by decide +kernel
theorem d_Pa_reduce_62 : decode m_Pa_reduce.2.1 62 = .ok (.putfield 177, 3) := by decide +kernel
theorem d_Pa_reduce_65 : decode m_Pa_reduce.2.1 65 = .ok (.goto (-65), 3) := by decide +kernel
theorem d_Pa_reduce_68 : decode m_Pa_reduce.2.1 68 = .ok (.return_, 1) := by decide +kernel
theorem d_Pa_topSign_0 : decode m_Pa_topSign.2.1 0 = .ok (.aload_n 0, 1) := by decide +kernel
theorem d_Pa_topSign_1 : decode m_Pa_topSign.2.1 1 = .ok (.getfield 177, 3) := by decide +kernel
theorem d_Pa_topSign_4 : decode m_Pa_topSign.2.1 4 = .ok (.ifCond .le 17, 3) := by decide +kernel
theorem d_Pa_topSign_7 : decode m_Pa_topSign.2.1 7 = .ok (.aload_n 0, 1) := by decide +kernel
theorem d_Pa_topSign_8 : decode m_Pa_topSign.2.1 8 = .ok (.getfield 27, 3) := by decide +kernel
theorem d_Pa_topSign_11 : decode m_Pa_topSign.2.1 11 = .ok (.aload_n 0, 1) := by decide +kernel
theorem d_Pa_topSign_12 : decode m_Pa_topSign.2.1 12 = .ok (.getfield 177, 3) := by decide +kernel
theorem d_Pa_topSign_15 : decode m_Pa_topSign.2.1 15 = .ok (.iconst 1, 1) := by decide +kernel
theorem d_Pa_topSign_16 : decode m_Pa_topSign.2.1 16 = .ok (.isub, 1) := by decide +kernel
theorem d_Pa_topSign_17 : decode m_Pa_topSign.2.1 17 = .ok (.iaload, 1) := by decide +kernel
theorem d_Pa_topSign_18 : decode m_Pa_topSign.2.1 18 = .ok (.goto 4, 3) := by decide +kernel
theorem d_Pa_topSign_21 : decode m_Pa_topSign.2.1 21 = .ok (.iconst 0, 1) := by decide +kernel
theorem d_Pa_topSign_22 : decode m_Pa_topSign.2.1 22 = .ok (.ireturn, 1) := by decide +kernel
theorem d_Pa_apply_0 : decode m_Pa_apply.2.1 0 = .ok (.iload_n 1, 1) := by decide +kernel
theorem d_Pa_apply_1 : decode m_Pa_apply.2.1 1 = .ok (.bipush 22, 2) := by decide +kernel
theorem d_Pa_apply_3 : decode m_Pa_apply.2.1 3 = .ok (.if_icmp .ne 7, 3) := by decide +kernel
theorem d_Pa_apply_6 : decode m_Pa_apply.2.1 6 = .ok (.iconst 3, 1) := by decide +kernel
theorem d_Pa_apply_7 : decode m_Pa_apply.2.1 7 = .ok (.goto 14, 3) := by decide +kernel
theorem d_Pa_apply_10 : decode m_Pa_apply.2.1 10 = .ok (.iload_n 1, 1) := by decide +kernel
theorem d_Pa_apply_11 : decode m_Pa_apply.2.1 11 = .ok (.bipush 19, 2) := by decide +kernel
theorem d_Pa_apply_13 : decode m_Pa_apply.2.1 13 = .ok (.if_icmp .lt 7, 3) := by decide +kernel
theorem d_Pa_apply_16 : decode m_Pa_apply.2.1 16 = .ok (.iconst 1, 1) := by decide +kernel
theorem d_Pa_apply_17 : decode m_Pa_apply.2.1 17 = .ok (.goto 4, 3) := by decide +kernel
theorem d_Pa_apply_20 : decode m_Pa_apply.2.1 20 = .ok (.iconst 2, 1) := by decide +kernel
theorem d_Pa_apply_21 : decode m_Pa_apply.2.1 21 = .ok (.istore_n 2, 1) := by decide +kernel
theorem d_Pa_apply_22 : decode m_Pa_apply.2.1 22 = .ok (.aload_n 0, 1) := by decide +kernel
theorem d_Pa_apply_23 : decode m_Pa_apply.2.1 23 = .ok (.getfield 180, 3) := by decide +kernel
theorem d_Pa_apply_26 : decode m_Pa_apply.2.1 26 = .ok (.iload_n 2, 1) := by decide +kernel
theorem d_Pa_apply_27 : decode m_Pa_apply.2.1 27 = .ok (.if_icmp .ge 4, 3) := by decide +kernel
theorem d_Pa_apply_30 : decode m_Pa_apply.2.1 30 = .ok (.return_, 1) := by decide +kernel
theorem d_Pa_apply_31 : decode m_Pa_apply.2.1 31 = .ok (.aload_n 0, 1) := by decide +kernel
theorem d_Pa_apply_32 : decode m_Pa_apply.2.1 32 = .ok (.dup, 1) := by decide +kernel
theorem d_Pa_apply_33 : decode m_Pa_apply.2.1 33 = .ok (.getfield 180, 3) := by decide +kernel
theorem d_Pa_apply_36 : decode m_Pa_apply.2.1 36 = .ok (.iload_n 2, 1) := by decide +kernel
theorem d_Pa_apply_37 : decode m_Pa_apply.2.1 37 = .ok (.isub, 1) := by decide +kernel
theorem d_Pa_apply_38 : decode m_Pa_apply.2.1 38 = .ok (.putfield 180, 3) := by decide +kernel
theorem d_Pa_apply_41 : decode m_Pa_apply.2.1 41 = .ok (.aload_n 0, 1) := by decide +kernel
theorem d_Pa_apply_42 : decode m_Pa_apply.2.1 42 = .ok (.getfield 30, 3) := by decide +kernel
theorem d_Pa_apply_45 : decode m_Pa_apply.2.1 45 = .ok (.aload_n 0, 1) := by decide +kernel
theorem d_Pa_apply_46 : decode m_Pa_apply.2.1 46 = .ok (.getfield 180, 3) := by decide +kernel
theorem d_Pa_apply_49 : decode m_Pa_apply.2.1 49 = .ok (.iaload, 1) := by decide +kernel
theorem d_Pa_apply_50 : decode m_Pa_apply.2.1 50 = .ok (.istore_n 3, 1) := by decide +kernel
theorem d_Pa_apply_51 : decode m_Pa_apply.2.1 51 = .ok (.iload_n 2, 1) := by decide +kernel
theorem d_Pa_apply_52 : decode m_Pa_apply.2.1 52 = .ok (.iconst 1, 1) := by decide +kernel
theorem d_Pa_apply_53 : decode m_Pa_apply.2.1 53 = .ok (.if_icmp .le 17, 3) := by decide +kernel
theorem d_Pa_apply_56 : decode m_Pa_apply.2.1 56 = .ok (.aload_n 0, 1) := by decide +kernel
theorem d_Pa_apply_57 : decode m_Pa_apply.2.1 57 = .ok (.getfield 30, 3) := by decide +kernel
theorem d_Pa_apply_60 : decode m_Pa_apply.2.1 60 = .ok (.aload_n 0, 1) := by decide +kernel
theorem d_Pa_apply_61 : decode m_Pa_apply.2.1 61 = .ok (.getfield 180, 3) := by decide +kernel
theorem d_Pa_apply_64 : decode m_Pa_apply.2.1 64 = .ok (.iconst 1, 1) := by decide +kernel
theorem d_Pa_apply_65 : decode m_Pa_apply.2.1 65 = .ok (.iadd, 1) := by decide +kernel
theorem d_Pa_apply_66 : decode m_Pa_apply.2.1 66 = .ok (.iaload, 1) := by decide +kernel
theorem d_Pa_apply_67 : decode m_Pa_apply.2.1 67 = .ok (.goto 4, 3) := by decide +kernel
theorem d_Pa_apply_70 : decode m_Pa_apply.2.1 70 = .ok (.iload_n 3, 1) := by decide +kernel
theorem d_Pa_apply_71 : decode m_Pa_apply.2.1 71 = .ok (.istore 4, 2) := by decide +kernel
theorem d_Pa_apply_73 : decode m_Pa_apply.2.1 73 = .ok (.iload_n 2, 1) := by decide +kernel
theorem d_Pa_apply_74 : decode m_Pa_apply.2.1 74 = .ok (.iconst 2, 1) := by decide +kernel
theorem d_Pa_apply_75 : decode m_Pa_apply.2.1 75 = .ok (.if_icmp .le 17, 3) := by decide +kernel
theorem d_Pa_apply_78 : decode m_Pa_apply.2.1 78 = .ok (.aload_n 0, 1) := by decide +kernel
theorem d_Pa_apply_79 : decode m_Pa_apply.2.1 79 = .ok (.getfield 30, 3) := by decide +kernel
theorem d_Pa_apply_82 : decode m_Pa_apply.2.1 82 = .ok (.aload_n 0, 1) := by decide +kernel
theorem d_Pa_apply_83 : decode m_Pa_apply.2.1 83 = .ok (.getfield 180, 3) := by decide +kernel
theorem d_Pa_apply_86 : decode m_Pa_apply.2.1 86 = .ok (.iconst 2, 1) := by decide +kernel
theorem d_Pa_apply_87 : decode m_Pa_apply.2.1 87 = .ok (.iadd, 1) := by decide +kernel
theorem d_Pa_apply_88 : decode m_Pa_apply.2.1 88 = .ok (.iaload, 1) := by decide +kernel
theorem d_Pa_apply_89 : decode m_Pa_apply.2.1 89 = .ok (.goto 5, 3) := by decide +kernel
theorem d_Pa_apply_92 : decode m_Pa_apply.2.1 92 = .ok (.iload 4, 2) := by decide +kernel
theorem d_Pa_apply_94 : decode m_Pa_apply.2.1 94 = .ok (.istore 5, 2) := by decide +kernel
theorem d_Pa_apply_96 : decode m_Pa_apply.2.1 96 = .ok (.iload_n 3, 1) := by decide +kernel
theorem d_Pa_apply_97 : decode m_Pa_apply.2.1 97 = .ok (.iload 4, 2) := by decide +kernel
theorem d_Pa_apply_99 : decode m_Pa_apply.2.1 99 = .ok (.iload 5, 2) := by decide +kernel
theorem d_Pa_apply_101 : decode m_Pa_apply.2.1 101 = .ok (.invokestatic 147, 3) := by decide +kernel
theorem d_Pa_apply_104 : decode m_Pa_apply.2.1 104 = .ok (.invokestatic 147, 3) := by decide +kernel
theorem d_Pa_apply_107 : decode m_Pa_apply.2.1 107 = .ok (.istore 6, 2) := by decide +kernel
theorem d_Pa_apply_109 : decode m_Pa_apply.2.1 109 = .ok (.getstatic 235, 3) := by decide +kernel
theorem d_Pa_apply_112 : decode m_Pa_apply.2.1 112 = .ok (.iload_n 1, 1) := by decide +kernel
theorem d_Pa_apply_113 : decode m_Pa_apply.2.1 113 = .ok (.iaload, 1) := by decide +kernel
theorem d_Pa_apply_114 : decode m_Pa_apply.2.1 114 = .ok (.iconst 1, 1) := by decide +kernel
theorem d_Pa_apply_115 : decode m_Pa_apply.2.1 115 = .ok (.if_icmp .ne 7, 3) := by decide +kernel
theorem d_Pa_apply_118 : decode m_Pa_apply.2.1 118 = .ok (.iconst 1, 1) := by decide +kernel
theorem d_Pa_apply_119 : decode m_Pa_apply.2.1 119 = .ok (.goto 37, 3) := by decide +kernel
theorem d_Pa_apply_122 : decode m_Pa_apply.2.1 122 = .ok (.getstatic 235, 3) := by decide +kernel
theorem d_Pa_apply_125 : decode m_Pa_apply.2.1 125 = .ok (.iload_n 1, 1) := by decide +kernel
theorem d_Pa_apply_126 : decode m_Pa_apply.2.1 126 = .ok (.iaload, 1) := by decide +kernel
theorem d_Pa_apply_127 : decode m_Pa_apply.2.1 127 = .ok (.iconst 2, 1) := by decide +kernel
theorem d_Pa_apply_128 : decode m_Pa_apply.2.1 128 = .ok (.if_icmp .ne 7, 3) := by decide +kernel
theorem d_Pa_apply_131 : decode m_Pa_apply.2.1 131 = .ok (.iload_n 3, 1) := by decide +kernel
theorem d_Pa_apply_132 : decode m_Pa_apply.2.1 132 = .ok (.goto 24, 3) := by decide +kernel
theorem d_Pa_apply_135 : decode m_Pa_apply.2.1 135 = .ok (.getstatic 235, 3) := by decide +kernel
theorem d_Pa_apply_138 : decode m_Pa_apply.2.1 138 = .ok (.iload_n 1, 1) := by decide +kernel
theorem d_Pa_apply_139 : decode m_Pa_apply.2.1 139 = .ok (.iaload, 1) := by decide +kernel
theorem d_Pa_apply_140 : decode m_Pa_apply.2.1 140 = .ok (.iconst 3, 1) := by decide +kernel
theorem d_Pa_apply_141 : decode m_Pa_apply.2.1 141 = .ok (.if_icmp .ne 13, 3) := by decide +kernel
theorem d_Pa_apply_144 : decode m_Pa_apply.2.1 144 = .ok (.iload 4, 2) := by decide +kernel
theorem d_Pa_apply_146 : decode m_Pa_apply.2.1 146 = .ok (.iload 5, 2) := by decide +kernel
theorem d_Pa_apply_148 : decode m_Pa_apply.2.1 148 = .ok (.invokestatic 147, 3) := by decide +kernel
theorem d_Pa_apply_151 : decode m_Pa_apply.2.1 151 = .ok (.goto 5, 3) := by decide +kernel
theorem d_Pa_apply_154 : decode m_Pa_apply.2.1 154 = .ok (.iload 6, 2) := by decide +kernel
theorem d_Pa_apply_156 : decode m_Pa_apply.2.1 156 = .ok (.istore 7, 2) := by decide +kernel
theorem d_Pa_apply_158 : decode m_Pa_apply.2.1 158 = .ok (.aload_n 0, 1) := by decide +kernel
theorem d_Pa_apply_159 : decode m_Pa_apply.2.1 159 = .ok (.iload_n 1, 1) := by decide +kernel
theorem d_Pa_apply_160 : decode m_Pa_apply.2.1 160 = .ok (.iconst 0, 1) := by decide +kernel
theorem d_Pa_apply_161 : decode m_Pa_apply.2.1 161 = .ok (.iload 7, 2) := by decide +kernel
theorem d_Pa_apply_163 : decode m_Pa_apply.2.1 163 = .ok (.invokevirtual 196, 3) := by decide +kernel
theorem d_Pa_apply_166 : decode m_Pa_apply.2.1 166 = .ok (.getstatic 238, 3) := by decide +kernel
theorem d_Pa_apply_169 : decode m_Pa_apply.2.1 169 = .ok (.iload_n 1, 1) := by decide +kernel
theorem d_Pa_apply_170 : decode m_Pa_apply.2.1 170 = .ok (.iaload, 1) := by decide +kernel
theorem d_Pa_apply_171 : decode m_Pa_apply.2.1 171 = .ok (.iconst 2, 1) := by decide +kernel
theorem d_Pa_apply_172 : decode m_Pa_apply.2.1 172 = .ok (.if_icmp .ne 11, 3) := by decide +kernel
theorem d_Pa_apply_175 : decode m_Pa_apply.2.1 175 = .ok (.iload 6, 2) := by decide +kernel
theorem d_Pa_apply_177 : decode m_Pa_apply.2.1 177 = .ok (.iload 6, 2) := by decide +kernel
theorem d_Pa_apply_179 : decode m_Pa_apply.2.1 179 = .ok (.imul, 1) := by decide +kernel
theorem d_Pa_apply_180 : decode m_Pa_apply.2.1 180 = .ok (.goto 21, 3) := by decide +kernel
theorem d_Pa_apply_183 : decode m_Pa_apply.2.1 183 = .ok (.getstatic 238, 3) := by decide +kernel
theorem d_Pa_apply_186 : decode m_Pa_apply.2.1 186 = .ok (.iload_n 1, 1) := by decide +kernel
theorem d_Pa_apply_187 : decode m_Pa_apply.2.1 187 = .ok (.iaload, 1) := by decide +kernel
theorem d_Pa_apply_188 : decode m_Pa_apply.2.1 188 = .ok (.iconst 1, 1) := by decide +kernel
theorem d_Pa_apply_189 : decode m_Pa_apply.2.1 189 = .ok (.if_icmp .ne 10, 3) := by decide +kernel
theorem d_Pa_apply_192 : decode m_Pa_apply.2.1 192 = .ok (.iconst 4, 1) := by decide +kernel
theorem d_Pa_apply_193 : decode m_Pa_apply.2.1 193 = .ok (.iload 6, 2) := by decide +kernel
theorem d_Pa_apply_195 : decode m_Pa_apply.2.1 195 = .ok (.imul, 1) := by decide +kernel
theorem d_Pa_apply_196 : decode m_Pa_apply.2.1 196 = .ok (.goto 5, 3) := by decide +kernel
theorem d_Pa_apply_199 : decode m_Pa_apply.2.1 199 = .ok (.iload 6, 2) := by decide +kernel
theorem d_Pa_apply_201 : decode m_Pa_apply.2.1 201 = .ok (.istore 8, 2) := by decide +kernel
theorem d_Pa_apply_203 : decode m_Pa_apply.2.1 203 = .ok (.aload_n 0, 1) := by decide +kernel
theorem d_Pa_apply_204 : decode m_Pa_apply.2.1 204 = .ok (.aload_n 0, 1) := by decide +kernel
theorem d_Pa_apply_205 : decode m_Pa_apply.2.1 205 = .ok (.getfield 183, 3) := by decide +kernel
theorem d_Pa_apply_208 : decode m_Pa_apply.2.1 208 = .ok (.iload 8, 2) := by decide +kernel
theorem d_Pa_apply_210 : decode m_Pa_apply.2.1 210 = .ok (.iadd, 1) := by decide +kernel
theorem d_Pa_apply_211 : decode m_Pa_apply.2.1 211 = .ok (.sipush 1501, 3) := by decide +kernel
theorem d_Pa_apply_214 : decode m_Pa_apply.2.1 214 = .ok (.invokestatic 81, 3) := by decide +kernel
theorem d_Pa_apply_217 : decode m_Pa_apply.2.1 217 = .ok (.putfield 183, 3) := by decide +kernel
theorem d_Pa_apply_220 : decode m_Pa_apply.2.1 220 = .ok (.return_, 1) := by decide +kernel
theorem d_Pa_reduceChoices_0 : decode m_Pa_reduceChoices.2.1 0 = .ok (.aload_n 0, 1) := by decide +kernel
theorem d_Pa_reduceChoices_1 : decode m_Pa_reduceChoices.2.1 1 = .ok (.getfield 177, 3) := by decide +kernel
theorem d_Pa_reduceChoices_4 : decode m_Pa_reduceChoices.2.1 4 = .ok (.ifCond .le 41, 3) := by decide +kernel
theorem d_Pa_reduceChoices_7 : decode m_Pa_reduceChoices.2.1 7 = .ok (.aload_n 0, 1) := by decide +kernel
theorem d_Pa_reduceChoices_8 : decode m_Pa_reduceChoices.2.1 8 = .ok (.invokevirtual 229, 3) := by decide +kernel
theorem d_Pa_reduceChoices_11 : decode m_Pa_reduceChoices.2.1 11 = .ok (.bipush 33, 2) := by decide +kernel
theorem d_Pa_reduceChoices_13 : decode m_Pa_reduceChoices.2.1 13 = .ok (.if_icmp .ne 32, 3) := by decide +kernel
theorem d_Pa_reduceChoices_16 : decode m_Pa_reduceChoices.2.1 16 = .ok (.aload_n 0, 1) := by decide +kernel
theorem d_Pa_reduceChoices_17 : decode m_Pa_reduceChoices.2.1 17 = .ok (.bipush 22, 2) := by decide +kernel
theorem d_Pa_reduceChoices_19 : decode m_Pa_reduceChoices.2.1 19 = .ok (.invokevirtual 232, 3) := by decide +kernel
theorem d_Pa_reduceChoices_22 : decode m_Pa_reduceChoices.2.1 22 = .ok (.aload_n 0, 1) := by decide +kernel
theorem d_Pa_reduceChoices_23 : decode m_Pa_reduceChoices.2.1 23 = .ok (.dup, 1) := by decide +kernel
theorem d_Pa_reduceChoices_24 : decode m_Pa_reduceChoices.2.1 24 = .ok (.getfield 177, 3) := by decide +kernel
theorem d_Pa_reduceChoices_27 : decode m_Pa_reduceChoices.2.1 27 = .ok (.iconst 1, 1) := by decide +kernel
theorem d_Pa_reduceChoices_28 : decode m_Pa_reduceChoices.2.1 28 = .ok (.isub, 1) := by decide +kernel
theorem d_Pa_reduceChoices_29 : decode m_Pa_reduceChoices.2.1 29 = .ok (.putfield 177, 3) := by decide +kernel
theorem d_Pa_reduceChoices_32 : decode m_Pa_reduceChoices.2.1 32 = .ok (.aload_n 0, 1) := by decide +kernel
theorem d_Pa_reduceChoices_33 : decode m_Pa_reduceChoices.2.1 33 = .ok (.dup, 1) := by decide +kernel
theorem d_Pa_reduceChoices_34 : decode m_Pa_reduceChoices.2.1 34 = .ok (.getfield 174, 3) := by decide +kernel
theorem d_Pa_reduceChoices_37 : decode m_Pa_reduceChoices.2.1 37 = .ok (.iconst 1, 1) := by decide +kernel
theorem d_Pa_reduceChoices_38 : decode m_Pa_reduceChoices.2.1 38 = .ok (.isub, 1) := by decide +kernel
theorem d_Pa_reduceChoices_39 : decode m_Pa_reduceChoices.2.1 39 = .ok (.putfield 174, 3) := by decide +kernel
theorem d_Pa_reduceChoices_42 : decode m_Pa_reduceChoices.2.1 42 = .ok (.goto (-42), 3) := by decide +kernel
theorem d_Pa_reduceChoices_45 : decode m_Pa_reduceChoices.2.1 45 = .ok (.return_, 1) := by decide +kernel
theorem d_Pa_finish_0 : decode m_Pa_finish.2.1 0 = .ok (.iload_n 1, 1) := by decide +kernel
theorem d_Pa_finish_1 : decode m_Pa_finish.2.1 1 = .ok (.istore_n 2, 1) := by decide +kernel
theorem d_Pa_finish_2 : decode m_Pa_finish.2.1 2 = .ok (.aload_n 0, 1) := by decide +kernel
theorem d_Pa_finish_3 : decode m_Pa_finish.2.1 3 = .ok (.getfield 46, 3) := by decide +kernel
theorem d_Pa_finish_6 : decode m_Pa_finish.2.1 6 = .ok (.ifCond .le 110, 3) := by decide +kernel
theorem d_Pa_finish_9 : decode m_Pa_finish.2.1 9 = .ok (.aload_n 0, 1) := by decide +kernel
theorem d_Pa_finish_10 : decode m_Pa_finish.2.1 10 = .ok (.getfield 46, 3) := by decide +kernel
theorem d_Pa_finish_13 : decode m_Pa_finish.2.1 13 = .ok (.iconst 1, 1) := by decide +kernel
theorem d_Pa_finish_14 : decode m_Pa_finish.2.1 14 = .ok (.isub, 1) := by decide +kernel
theorem d_Pa_finish_15 : decode m_Pa_finish.2.1 15 = .ok (.istore_n 3, 1) := by decide +kernel
theorem d_Pa_finish_16 : decode m_Pa_finish.2.1 16 = .ok (.aload_n 0, 1) := by decide +kernel
theorem d_Pa_finish_17 : decode m_Pa_finish.2.1 17 = .ok (.getfield 24, 3) := by decide +kernel
theorem d_Pa_finish_20 : decode m_Pa_finish.2.1 20 = .ok (.iload_n 3, 1) := by decide +kernel
theorem d_Pa_finish_21 : decode m_Pa_finish.2.1 21 = .ok (.aload_n 0, 1) := by decide +kernel
theorem d_Pa_finish_22 : decode m_Pa_finish.2.1 22 = .ok (.getfield 24, 3) := by decide +kernel
theorem d_Pa_finish_25 : decode m_Pa_finish.2.1 25 = .ok (.iload_n 3, 1) := by decide +kernel
theorem d_Pa_finish_26 : decode m_Pa_finish.2.1 26 = .ok (.iaload, 1) := by decide +kernel
theorem d_Pa_finish_27 : decode m_Pa_finish.2.1 27 = .ok (.iload_n 2, 1) := by decide +kernel
theorem d_Pa_finish_28 : decode m_Pa_finish.2.1 28 = .ok (.iadd, 1) := by decide +kernel
theorem d_Pa_finish_29 : decode m_Pa_finish.2.1 29 = .ok (.invokestatic 156, 3) := by decide +kernel
theorem d_Pa_finish_32 : decode m_Pa_finish.2.1 32 = .ok (.iastore, 1) := by decide +kernel
theorem d_Pa_finish_33 : decode m_Pa_finish.2.1 33 = .ok (.aload_n 0, 1) := by decide +kernel
theorem d_Pa_finish_34 : decode m_Pa_finish.2.1 34 = .ok (.getfield 9, 3) := by decide +kernel
theorem d_Pa_finish_37 : decode m_Pa_finish.2.1 37 = .ok (.iload_n 3, 1) := by decide +kernel
theorem d_Pa_finish_38 : decode m_Pa_finish.2.1 38 = .ok (.iaload, 1) := by decide +kernel
theorem d_Pa_finish_39 : decode m_Pa_finish.2.1 39 = .ok (.iconst 1, 1) := by decide +kernel
theorem d_Pa_finish_40 : decode m_Pa_finish.2.1 40 = .ok (.if_icmp .ne 4, 3) := by decide +kernel
theorem d_Pa_finish_43 : decode m_Pa_finish.2.1 43 = .ok (.return_, 1) := by decide +kernel
theorem d_Pa_finish_44 : decode m_Pa_finish.2.1 44 = .ok (.aload_n 0, 1) := by decide +kernel
theorem d_Pa_finish_45 : decode m_Pa_finish.2.1 45 = .ok (.getfield 9, 3) := by decide +kernel
theorem d_Pa_finish_48 : decode m_Pa_finish.2.1 48 = .ok (.iload_n 3, 1) := by decide +kernel
theorem d_Pa_finish_49 : decode m_Pa_finish.2.1 49 = .ok (.iaload, 1) := by decide +kernel
theorem d_Pa_finish_50 : decode m_Pa_finish.2.1 50 = .ok (.iconst 2, 1) := by decide +kernel
theorem d_Pa_finish_51 : decode m_Pa_finish.2.1 51 = .ok (.if_icmp .ne 28, 3) := by decide +kernel
theorem d_Pa_finish_54 : decode m_Pa_finish.2.1 54 = .ok (.aload_n 0, 1) := by decide +kernel
theorem d_Pa_finish_55 : decode m_Pa_finish.2.1 55 = .ok (.getfield 33, 3) := by decide +kernel
theorem d_Pa_finish_58 : decode m_Pa_finish.2.1 58 = .ok (.invokevirtual 75, 3) := by decide +kernel
theorem d_Pa_finish_61 : decode m_Pa_finish.2.1 61 = .ok (.bipush 42, 2) := by decide +kernel
theorem d_Pa_finish_63 : decode m_Pa_finish.2.1 63 = .ok (.if_icmp .ne 16, 3) := by decide +kernel
theorem d_Pa_finish_66 : decode m_Pa_finish.2.1 66 = .ok (.aload_n 0, 1) := by decide +kernel
theorem d_Pa_finish_67 : decode m_Pa_finish.2.1 67 = .ok (.getfield 33, 3) := by decide +kernel
theorem d_Pa_finish_70 : decode m_Pa_finish.2.1 70 = .ok (.invokevirtual 78, 3) := by decide +kernel
theorem d_Pa_finish_73 : decode m_Pa_finish.2.1 73 = .ok (.aload_n 0, 1) := by decide +kernel
theorem d_Pa_finish_74 : decode m_Pa_finish.2.1 74 = .ok (.iload_n 3, 1) := by decide +kernel
theorem d_Pa_finish_75 : decode m_Pa_finish.2.1 75 = .ok (.invokevirtual 159, 3) := by decide +kernel
theorem d_Pa_finish_78 : decode m_Pa_finish.2.1 78 = .ok (.return_, 1) := by decide +kernel
theorem d_Pa_finish_79 : decode m_Pa_finish.2.1 79 = .ok (.aload_n 0, 1) := by decide +kernel
theorem d_Pa_finish_80 : decode m_Pa_finish.2.1 80 = .ok (.getfield 9, 3) := by decide +kernel
theorem d_Pa_finish_83 : decode m_Pa_finish.2.1 83 = .ok (.iload_n 3, 1) := by decide +kernel
theorem d_Pa_finish_84 : decode m_Pa_finish.2.1 84 = .ok (.iaload, 1) := by decide +kernel
theorem d_Pa_finish_85 : decode m_Pa_finish.2.1 85 = .ok (.iconst 4, 1) := by decide +kernel
theorem d_Pa_finish_86 : decode m_Pa_finish.2.1 86 = .ok (.if_icmp .ne 11, 3) := by decide +kernel
theorem d_Pa_finish_89 : decode m_Pa_finish.2.1 89 = .ok (.aload_n 0, 1) := by decide +kernel
theorem d_Pa_finish_90 : decode m_Pa_finish.2.1 90 = .ok (.iload_n 3, 1) := by decide +kernel
theorem d_Pa_finish_91 : decode m_Pa_finish.2.1 91 = .ok (.invokevirtual 162, 3) := by decide +kernel
theorem d_Pa_finish_94 : decode m_Pa_finish.2.1 94 = .ok (.goto 8, 3) := by decide +kernel
theorem d_Pa_finish_97 : decode m_Pa_finish.2.1 97 = .ok (.aload_n 0, 1) := by decide +kernel
theorem d_Pa_finish_98 : decode m_Pa_finish.2.1 98 = .ok (.iload_n 3, 1) := by decide +kernel
theorem d_Pa_finish_99 : decode m_Pa_finish.2.1 99 = .ok (.invokevirtual 165, 3) := by decide +kernel
theorem d_Pa_finish_102 : decode m_Pa_finish.2.1 102 = .ok (.istore_n 2, 1) := by decide +kernel
theorem d_Pa_finish_103 : decode m_Pa_finish.2.1 103 = .ok (.aload_n 0, 1) := by decide +kernel
theorem d_Pa_finish_104 : decode m_Pa_finish.2.1 104 = .ok (.dup, 1) := by decide +kernel
theorem d_Pa_finish_105 : decode m_Pa_finish.2.1 105 = .ok (.getfield 46, 3) := by decide +kernel
theorem d_Pa_finish_108 : decode m_Pa_finish.2.1 108 = .ok (.iconst 1, 1) := by decide +kernel
theorem d_Pa_finish_109 : decode m_Pa_finish.2.1 109 = .ok (.isub, 1) := by decide +kernel
theorem d_Pa_finish_110 : decode m_Pa_finish.2.1 110 = .ok (.putfield 46, 3) := by decide +kernel
theorem d_Pa_finish_113 : decode m_Pa_finish.2.1 113 = .ok (.goto (-111), 3) := by decide +kernel
theorem d_Pa_finish_116 : decode m_Pa_finish.2.1 116 = .ok (.aload_n 0, 1) := by decide +kernel
theorem d_Pa_finish_117 : decode m_Pa_finish.2.1 117 = .ok (.getfield 37, 3) := by decide +kernel
theorem d_Pa_finish_120 : decode m_Pa_finish.2.1 120 = .ok (.aload_n 0, 1) := by decide +kernel
theorem d_Pa_finish_121 : decode m_Pa_finish.2.1 121 = .ok (.getfield 37, 3) := by decide +kernel
theorem d_Pa_finish_124 : decode m_Pa_finish.2.1 124 = .ok (.getfield 65, 3) := by decide +kernel
theorem d_Pa_finish_127 : decode m_Pa_finish.2.1 127 = .ok (.iload_n 2, 1) := by decide +kernel
theorem d_Pa_finish_128 : decode m_Pa_finish.2.1 128 = .ok (.iadd, 1) := by decide +kernel
theorem d_Pa_finish_129 : decode m_Pa_finish.2.1 129 = .ok (.invokestatic 156, 3) := by decide +kernel
theorem d_Pa_finish_132 : decode m_Pa_finish.2.1 132 = .ok (.putfield 65, 3) := by decide +kernel
theorem d_Pa_finish_135 : decode m_Pa_finish.2.1 135 = .ok (.return_, 1) := by decide +kernel
theorem d_Pa_capped_0 : decode m_Pa_capped.2.1 0 = .ok (.iload_n 0, 1) := by decide +kernel
theorem d_Pa_capped_1 : decode m_Pa_capped.2.1 1 = .ok (.sipush 1501, 3) := by decide +kernel
theorem d_Pa_capped_4 : decode m_Pa_capped.2.1 4 = .ok (.invokestatic 81, 3) := by decide +kernel
theorem d_Pa_capped_7 : decode m_Pa_capped.2.1 7 = .ok (.ireturn, 1) := by decide +kernel
theorem d_Pa_goOnWithElse_0 : decode m_Pa_goOnWithElse.2.1 0 = .ok (.aload_n 0, 1) := by decide +kernel
theorem d_Pa_goOnWithElse_1 : decode m_Pa_goOnWithElse.2.1 1 = .ok (.getfield 37, 3) := by decide +kernel
theorem d_Pa_goOnWithElse_4 : decode m_Pa_goOnWithElse.2.1 4 = .ok (.iconst 5, 1) := by decide +kernel
theorem d_Pa_goOnWithElse_5 : decode m_Pa_goOnWithElse.2.1 5 = .ok (.iconst 0, 1) := by decide +kernel
theorem d_Pa_goOnWithElse_6 : decode m_Pa_goOnWithElse.2.1 6 = .ok (.aload_n 0, 1) := by decide +kernel
theorem d_Pa_goOnWithElse_7 : decode m_Pa_goOnWithElse.2.1 7 = .ok (.getfield 37, 3) := by decide +kernel
theorem d_Pa_goOnWithElse_10 : decode m_Pa_goOnWithElse.2.1 10 = .ok (.getfield 136, 3) := by decide +kernel
theorem d_Pa_goOnWithElse_13 : decode m_Pa_goOnWithElse.2.1 13 = .ok (.invokevirtual 143, 3) := by decide +kernel
theorem d_Pa_goOnWithElse_16 : decode m_Pa_goOnWithElse.2.1 16 = .ok (.istore_n 2, 1) := by decide +kernel
theorem d_Pa_goOnWithElse_17 : decode m_Pa_goOnWithElse.2.1 17 = .ok (.aload_n 0, 1) := by decide +kernel
theorem d_Pa_goOnWithElse_18 : decode m_Pa_goOnWithElse.2.1 18 = .ok (.getfield 37, 3) := by decide +kernel
theorem d_Pa_goOnWithElse_21 : decode m_Pa_goOnWithElse.2.1 21 = .ok (.getfield 153, 3) := by decide +kernel
theorem d_Pa_goOnWithElse_24 : decode m_Pa_goOnWithElse.2.1 24 = .ok (.aload_n 0, 1) := by decide +kernel
theorem d_Pa_goOnWithElse_25 : decode m_Pa_goOnWithElse.2.1 25 = .ok (.getfield 15, 3) := by decide +kernel
theorem d_Pa_goOnWithElse_28 : decode m_Pa_goOnWithElse.2.1 28 = .ok (.iload_n 1, 1) := by decide +kernel
theorem d_Pa_goOnWithElse_29 : decode m_Pa_goOnWithElse.2.1 29 = .ok (.iaload, 1) := by decide +kernel
theorem d_Pa_goOnWithElse_30 : decode m_Pa_goOnWithElse.2.1 30 = .ok (.aload_n 0, 1) := by decide +kernel
theorem d_Pa_goOnWithElse_31 : decode m_Pa_goOnWithElse.2.1 31 = .ok (.getfield 37, 3) := by decide +kernel
theorem d_Pa_goOnWithElse_34 : decode m_Pa_goOnWithElse.2.1 34 = .ok (.getfield 168, 3) := by decide +kernel
theorem d_Pa_goOnWithElse_37 : decode m_Pa_goOnWithElse.2.1 37 = .ok (.iastore, 1) := by decide +kernel
theorem d_Pa_goOnWithElse_38 : decode m_Pa_goOnWithElse.2.1 38 = .ok (.aload_n 0, 1) := by decide +kernel
theorem d_Pa_goOnWithElse_39 : decode m_Pa_goOnWithElse.2.1 39 = .ok (.getfield 15, 3) := by decide +kernel
theorem d_Pa_goOnWithElse_42 : decode m_Pa_goOnWithElse.2.1 42 = .ok (.iload_n 1, 1) := by decide +kernel
theorem d_Pa_goOnWithElse_43 : decode m_Pa_goOnWithElse.2.1 43 = .ok (.iload_n 2, 1) := by decide +kernel
theorem d_Pa_goOnWithElse_44 : decode m_Pa_goOnWithElse.2.1 44 = .ok (.iastore, 1) := by decide +kernel
theorem d_Pa_goOnWithElse_45 : decode m_Pa_goOnWithElse.2.1 45 = .ok (.aload_n 0, 1) := by decide +kernel
theorem d_Pa_goOnWithElse_46 : decode m_Pa_goOnWithElse.2.1 46 = .ok (.getfield 9, 3) := by decide +kernel
theorem d_Pa_goOnWithElse_49 : decode m_Pa_goOnWithElse.2.1 49 = .ok (.iload_n 1, 1) := by decide +kernel
theorem d_Pa_goOnWithElse_50 : decode m_Pa_goOnWithElse.2.1 50 = .ok (.iconst 3, 1) := by decide +kernel
theorem d_Pa_goOnWithElse_51 : decode m_Pa_goOnWithElse.2.1 51 = .ok (.iastore, 1) := by decide +kernel
theorem d_Pa_goOnWithElse_52 : decode m_Pa_goOnWithElse.2.1 52 = .ok (.return_, 1) := by decide +kernel
theorem d_Pa_closeLoop_0 : decode m_Pa_closeLoop.2.1 0 = .ok (.aload_n 0, 1) := by decide +kernel
theorem d_Pa_closeLoop_1 : decode m_Pa_closeLoop.2.1 1 = .ok (.getfield 37, 3) := by decide +kernel
theorem d_Pa_closeLoop_4 : decode m_Pa_closeLoop.2.1 4 = .ok (.bipush 9, 2) := by decide +kernel
theorem d_Pa_closeLoop_6 : decode m_Pa_closeLoop.2.1 6 = .ok (.iconst 0, 1) := by decide +kernel
theorem d_Pa_closeLoop_7 : decode m_Pa_closeLoop.2.1 7 = .ok (.aload_n 0, 1) := by decide +kernel
theorem d_Pa_closeLoop_8 : decode m_Pa_closeLoop.2.1 8 = .ok (.getfield 37, 3) := by decide +kernel
theorem d_Pa_closeLoop_11 : decode m_Pa_closeLoop.2.1 11 = .ok (.getfield 136, 3) := by decide +kernel
theorem d_Pa_closeLoop_14 : decode m_Pa_closeLoop.2.1 14 = .ok (.invokevirtual 143, 3) := by decide +kernel
theorem d_Pa_closeLoop_17 : decode m_Pa_closeLoop.2.1 17 = .ok (.istore_n 2, 1) := by decide +kernel
theorem d_Pa_closeLoop_18 : decode m_Pa_closeLoop.2.1 18 = .ok (.aload_n 0, 1) := by decide +kernel
theorem d_Pa_closeLoop_19 : decode m_Pa_closeLoop.2.1 19 = .ok (.getfield 37, 3) := by decide +kernel
theorem d_Pa_closeLoop_22 : decode m_Pa_closeLoop.2.1 22 = .ok (.getfield 153, 3) := by decide +kernel
theorem d_Pa_closeLoop_25 : decode m_Pa_closeLoop.2.1 25 = .ok (.iload_n 2, 1) := by decide +kernel
theorem d_Pa_closeLoop_26 : decode m_Pa_closeLoop.2.1 26 = .ok (.aload_n 0, 1) := by decide +kernel
theorem d_Pa_closeLoop_27 : decode m_Pa_closeLoop.2.1 27 = .ok (.getfield 15, 3) := by decide +kernel
theorem d_Pa_closeLoop_30 : decode m_Pa_closeLoop.2.1 30 = .ok (.iload_n 1, 1) := by decide +kernel
theorem d_Pa_closeLoop_31 : decode m_Pa_closeLoop.2.1 31 = .ok (.iaload, 1) := by decide +kernel
theorem d_Pa_closeLoop_32 : decode m_Pa_closeLoop.2.1 32 = .ok (.iastore, 1) := by decide +kernel
theorem d_Pa_closeLoop_33 : decode m_Pa_closeLoop.2.1 33 = .ok (.aload_n 0, 1) := by decide +kernel
theorem d_Pa_closeLoop_34 : decode m_Pa_closeLoop.2.1 34 = .ok (.getfield 37, 3) := by decide +kernel
theorem d_Pa_closeLoop_37 : decode m_Pa_closeLoop.2.1 37 = .ok (.getfield 153, 3) := by decide +kernel
theorem d_Pa_closeLoop_40 : decode m_Pa_closeLoop.2.1 40 = .ok (.aload_n 0, 1) := by decide +kernel
theorem d_Pa_closeLoop_41 : decode m_Pa_closeLoop.2.1 41 = .ok (.getfield 15, 3) := by decide +kernel
theorem d_Pa_closeLoop_44 : decode m_Pa_closeLoop.2.1 44 = .ok (.iload_n 1, 1) := by decide +kernel
theorem d_Pa_closeLoop_45 : decode m_Pa_closeLoop.2.1 45 = .ok (.iaload, 1) := by decide +kernel
theorem d_Pa_closeLoop_46 : decode m_Pa_closeLoop.2.1 46 = .ok (.aload_n 0, 1) := by decide +kernel
theorem d_Pa_closeLoop_47 : decode m_Pa_closeLoop.2.1 47 = .ok (.getfield 37, 3) := by decide +kernel
theorem d_Pa_closeLoop_50 : decode m_Pa_closeLoop.2.1 50 = .ok (.getfield 168, 3) := by decide +kernel
theorem d_Pa_closeLoop_53 : decode m_Pa_closeLoop.2.1 53 = .ok (.iastore, 1) := by decide +kernel
theorem d_Pa_closeLoop_54 : decode m_Pa_closeLoop.2.1 54 = .ok (.aload_n 0, 1) := by decide +kernel
theorem d_Pa_closeLoop_55 : decode m_Pa_closeLoop.2.1 55 = .ok (.dup, 1) := by decide +kernel
theorem d_Pa_closeLoop_56 : decode m_Pa_closeLoop.2.1 56 = .ok (.getfield 50, 3) := by decide +kernel
theorem d_Pa_closeLoop_59 : decode m_Pa_closeLoop.2.1 59 = .ok (.iconst 1, 1) := by decide +kernel
theorem d_Pa_closeLoop_60 : decode m_Pa_closeLoop.2.1 60 = .ok (.isub, 1) := by decide +kernel
theorem d_Pa_closeLoop_61 : decode m_Pa_closeLoop.2.1 61 = .ok (.putfield 50, 3) := by decide +kernel
theorem d_Pa_closeLoop_64 : decode m_Pa_closeLoop.2.1 64 = .ok (.aload_n 0, 1) := by decide +kernel
theorem d_Pa_closeLoop_65 : decode m_Pa_closeLoop.2.1 65 = .ok (.getfield 18, 3) := by decide +kernel
theorem d_Pa_closeLoop_68 : decode m_Pa_closeLoop.2.1 68 = .ok (.iload_n 1, 1) := by decide +kernel
theorem d_Pa_closeLoop_69 : decode m_Pa_closeLoop.2.1 69 = .ok (.iaload, 1) := by decide +kernel
theorem d_Pa_closeLoop_70 : decode m_Pa_closeLoop.2.1 70 = .ok (.aload_n 0, 1) := by decide +kernel
theorem d_Pa_closeLoop_71 : decode m_Pa_closeLoop.2.1 71 = .ok (.getfield 21, 3) := by decide +kernel
theorem d_Pa_closeLoop_74 : decode m_Pa_closeLoop.2.1 74 = .ok (.iload_n 1, 1) := by decide +kernel
theorem d_Pa_closeLoop_75 : decode m_Pa_closeLoop.2.1 75 = .ok (.iaload, 1) := by decide +kernel
theorem d_Pa_closeLoop_76 : decode m_Pa_closeLoop.2.1 76 = .ok (.aload_n 0, 1) := by decide +kernel
theorem d_Pa_closeLoop_77 : decode m_Pa_closeLoop.2.1 77 = .ok (.getfield 24, 3) := by decide +kernel
theorem d_Pa_closeLoop_80 : decode m_Pa_closeLoop.2.1 80 = .ok (.iload_n 1, 1) := by decide +kernel
theorem d_Pa_closeLoop_81 : decode m_Pa_closeLoop.2.1 81 = .ok (.iaload, 1) := by decide +kernel
theorem d_Pa_closeLoop_82 : decode m_Pa_closeLoop.2.1 82 = .ok (.iadd, 1) := by decide +kernel
theorem d_Pa_closeLoop_83 : decode m_Pa_closeLoop.2.1 83 = .ok (.bipush 8, 2) := by decide +kernel
theorem d_Pa_closeLoop_85 : decode m_Pa_closeLoop.2.1 85 = .ok (.aload_n 0, 1) := by decide +kernel
theorem d_Pa_closeLoop_86 : decode m_Pa_closeLoop.2.1 86 = .ok (.getfield 37, 3) := by decide +kernel
theorem d_Pa_closeLoop_89 : decode m_Pa_closeLoop.2.1 89 = .ok (.getfield 171, 3) := by decide +kernel
theorem d_Pa_closeLoop_92 : decode m_Pa_closeLoop.2.1 92 = .ok (.imul, 1) := by decide +kernel
theorem d_Pa_closeLoop_93 : decode m_Pa_closeLoop.2.1 93 = .ok (.iadd, 1) := by decide +kernel
theorem d_Pa_closeLoop_94 : decode m_Pa_closeLoop.2.1 94 = .ok (.imul, 1) := by decide +kernel
theorem d_Pa_closeLoop_95 : decode m_Pa_closeLoop.2.1 95 = .ok (.aload_n 0, 1) := by decide +kernel
theorem d_Pa_closeLoop_96 : decode m_Pa_closeLoop.2.1 96 = .ok (.getfield 21, 3) := by decide +kernel
theorem d_Pa_closeLoop_99 : decode m_Pa_closeLoop.2.1 99 = .ok (.iload_n 1, 1) := by decide +kernel
theorem d_Pa_closeLoop_100 : decode m_Pa_closeLoop.2.1 100 = .ok (.iaload, 1) := by decide +kernel
theorem d_Pa_closeLoop_101 : decode m_Pa_closeLoop.2.1 101 = .ok (.iadd, 1) := by decide +kernel
theorem d_Pa_closeLoop_102 : decode m_Pa_closeLoop.2.1 102 = .ok (.invokestatic 156, 3) := by decide +kernel
theorem d_Pa_closeLoop_105 : decode m_Pa_closeLoop.2.1 105 = .ok (.ireturn, 1) := by decide +kernel
theorem d_Pa_closeBranch_0 : decode m_Pa_closeBranch.2.1 0 = .ok (.aload_n 0, 1) := by decide +kernel
theorem d_Pa_closeBranch_1 : decode m_Pa_closeBranch.2.1 1 = .ok (.getfield 37, 3) := by decide +kernel
theorem d_Pa_closeBranch_4 : decode m_Pa_closeBranch.2.1 4 = .ok (.getfield 153, 3) := by decide +kernel
theorem d_Pa_closeBranch_7 : decode m_Pa_closeBranch.2.1 7 = .ok (.aload_n 0, 1) := by decide +kernel
theorem d_Pa_closeBranch_8 : decode m_Pa_closeBranch.2.1 8 = .ok (.getfield 15, 3) := by decide +kernel
theorem d_Pa_closeBranch_11 : decode m_Pa_closeBranch.2.1 11 = .ok (.iload_n 1, 1) := by decide +kernel
theorem d_Pa_closeBranch_12 : decode m_Pa_closeBranch.2.1 12 = .ok (.iaload, 1) := by decide +kernel
theorem d_Pa_closeBranch_13 : decode m_Pa_closeBranch.2.1 13 = .ok (.aload_n 0, 1) := by decide +kernel
theorem d_Pa_closeBranch_14 : decode m_Pa_closeBranch.2.1 14 = .ok (.getfield 37, 3) := by decide +kernel
theorem d_Pa_closeBranch_17 : decode m_Pa_closeBranch.2.1 17 = .ok (.bipush 6, 2) := by decide +kernel
theorem d_Pa_closeBranch_19 : decode m_Pa_closeBranch.2.1 19 = .ok (.iconst 0, 1) := by decide +kernel
theorem d_Pa_closeBranch_20 : decode m_Pa_closeBranch.2.1 20 = .ok (.aload_n 0, 1) := by decide +kernel
theorem d_Pa_closeBranch_21 : decode m_Pa_closeBranch.2.1 21 = .ok (.getfield 37, 3) := by decide +kernel
theorem d_Pa_closeBranch_24 : decode m_Pa_closeBranch.2.1 24 = .ok (.getfield 136, 3) := by decide +kernel
theorem d_Pa_closeBranch_27 : decode m_Pa_closeBranch.2.1 27 = .ok (.invokevirtual 143, 3) := by decide +kernel
theorem d_Pa_closeBranch_30 : decode m_Pa_closeBranch.2.1 30 = .ok (.iastore, 1) := by decide +kernel
theorem d_Pa_closeBranch_31 : decode m_Pa_closeBranch.2.1 31 = .ok (.aload_n 0, 1) := by decide +kernel
theorem d_Pa_closeBranch_32 : decode m_Pa_closeBranch.2.1 32 = .ok (.getfield 21, 3) := by decide +kernel
theorem d_Pa_closeBranch_35 : decode m_Pa_closeBranch.2.1 35 = .ok (.iload_n 1, 1) := by decide +kernel
theorem d_Pa_closeBranch_36 : decode m_Pa_closeBranch.2.1 36 = .ok (.iaload, 1) := by decide +kernel
theorem d_Pa_closeBranch_37 : decode m_Pa_closeBranch.2.1 37 = .ok (.aload_n 0, 1) := by decide +kernel
theorem d_Pa_closeBranch_38 : decode m_Pa_closeBranch.2.1 38 = .ok (.getfield 24, 3) := by decide +kernel
theorem d_Pa_closeBranch_41 : decode m_Pa_closeBranch.2.1 41 = .ok (.iload_n 1, 1) := by decide +kernel
theorem d_Pa_closeBranch_42 : decode m_Pa_closeBranch.2.1 42 = .ok (.iaload, 1) := by decide +kernel
theorem d_Pa_closeBranch_43 : decode m_Pa_closeBranch.2.1 43 = .ok (.iadd, 1) := by decide +kernel
theorem d_Pa_closeBranch_44 : decode m_Pa_closeBranch.2.1 44 = .ok (.bipush 8, 2) := by decide +kernel
theorem d_Pa_closeBranch_46 : decode m_Pa_closeBranch.2.1 46 = .ok (.aload_n 0, 1) := by decide +kernel
theorem d_Pa_closeBranch_47 : decode m_Pa_closeBranch.2.1 47 = .ok (.getfield 37, 3) := by decide +kernel
theorem d_Pa_closeBranch_50 : decode m_Pa_closeBranch.2.1 50 = .ok (.getfield 171, 3) := by decide +kernel
theorem d_Pa_closeBranch_53 : decode m_Pa_closeBranch.2.1 53 = .ok (.imul, 1) := by decide +kernel
theorem d_Pa_closeBranch_54 : decode m_Pa_closeBranch.2.1 54 = .ok (.iadd, 1) := by decide +kernel
theorem d_Pa_closeBranch_55 : decode m_Pa_closeBranch.2.1 55 = .ok (.invokestatic 156, 3) := by decide +kernel
theorem d_Pa_closeBranch_58 : decode m_Pa_closeBranch.2.1 58 = .ok (.ireturn, 1) := by decide +kernel
theorem d_Pa_fork_0 : decode m_Pa_fork.2.1 0 = .ok (.aload_n 0, 1) := by decide +kernel
theorem d_Pa_fork_1 : decode m_Pa_fork.2.1 1 = .ok (.getfield 33, 3) := by decide +kernel
theorem d_Pa_fork_4 : decode m_Pa_fork.2.1 4 = .ok (.invokevirtual 75, 3) := by decide +kernel
theorem d_Pa_fork_7 : decode m_Pa_fork.2.1 7 = .ok (.bipush 43, 2) := by decide +kernel
theorem d_Pa_fork_9 : decode m_Pa_fork.2.1 9 = .ok (.if_icmp .ne 7, 3) := by decide +kernel
theorem d_Pa_fork_12 : decode m_Pa_fork.2.1 12 = .ok (.iconst 1, 1) := by decide +kernel
theorem d_Pa_fork_13 : decode m_Pa_fork.2.1 13 = .ok (.goto 4, 3) := by decide +kernel
theorem d_Pa_fork_16 : decode m_Pa_fork.2.1 16 = .ok (.iconst 0, 1) := by decide +kernel
theorem d_Pa_fork_17 : decode m_Pa_fork.2.1 17 = .ok (.istore_n 1, 1) := by decide +kernel
theorem d_Pa_fork_18 : decode m_Pa_fork.2.1 18 = .ok (.aload_n 0, 1) := by decide +kernel
theorem d_Pa_fork_19 : decode m_Pa_fork.2.1 19 = .ok (.getfield 33, 3) := by decide +kernel
theorem d_Pa_fork_22 : decode m_Pa_fork.2.1 22 = .ok (.invokevirtual 78, 3) := by decide +kernel
theorem d_Pa_fork_25 : decode m_Pa_fork.2.1 25 = .ok (.aload_n 0, 1) := by decide +kernel
theorem d_Pa_fork_26 : decode m_Pa_fork.2.1 26 = .ok (.getfield 33, 3) := by decide +kernel
theorem d_Pa_fork_29 : decode m_Pa_fork.2.1 29 = .ok (.invokevirtual 99, 3) := by decide +kernel
theorem d_Pa_fork_32 : decode m_Pa_fork.2.1 32 = .ok (.istore_n 2, 1) := by decide +kernel
theorem d_Pa_fork_33 : decode m_Pa_fork.2.1 33 = .ok (.iload_n 1, 1) := by decide +kernel
theorem d_Pa_fork_34 : decode m_Pa_fork.2.1 34 = .ok (.ifCond .eq 11, 3) := by decide +kernel
theorem d_Pa_fork_37 : decode m_Pa_fork.2.1 37 = .ok (.aload_n 0, 1) := by decide +kernel
theorem d_Pa_fork_38 : decode m_Pa_fork.2.1 38 = .ok (.iload_n 2, 1) := by decide +kernel
theorem d_Pa_fork_39 : decode m_Pa_fork.2.1 39 = .ok (.invokevirtual 150, 3) := by decide +kernel
theorem d_Pa_fork_42 : decode m_Pa_fork.2.1 42 = .ok (.ifCond .eq 12, 3) := by decide +kernel
theorem d_Pa_fork_45 : decode m_Pa_fork.2.1 45 = .ok (.aload_n 0, 1) := by decide +kernel
theorem d_Pa_fork_46 : decode m_Pa_fork.2.1 46 = .ok (.bipush 35, 2) := by decide +kernel
theorem d_Pa_fork_48 : decode m_Pa_fork.2.1 48 = .ok (.invokevirtual 95, 3) := by decide +kernel
theorem d_Pa_fork_51 : decode m_Pa_fork.2.1 51 = .ok (.ifCond .ne 5, 3) := by decide +kernel
theorem d_Pa_fork_54 : decode m_Pa_fork.2.1 54 = .ok (.iconst 0, 1) := by decide +kernel
theorem d_Pa_fork_55 : decode m_Pa_fork.2.1 55 = .ok (.ireturn, 1) := by decide +kernel
theorem d_Pa_fork_56 : decode m_Pa_fork.2.1 56 = .ok (.aload_n 0, 1) := by decide +kernel
theorem d_Pa_fork_57 : decode m_Pa_fork.2.1 57 = .ok (.getfield 37, 3) := by decide +kernel
theorem d_Pa_fork_60 : decode m_Pa_fork.2.1 60 = .ok (.getfield 136, 3) := by decide +kernel
theorem d_Pa_fork_63 : decode m_Pa_fork.2.1 63 = .ok (.istore_n 3, 1) := by decide +kernel
theorem d_Pa_fork_64 : decode m_Pa_fork.2.1 64 = .ok (.aload_n 0, 1) := by decide +kernel
theorem d_Pa_fork_65 : decode m_Pa_fork.2.1 65 = .ok (.aload_n 0, 1) := by decide +kernel
theorem d_Pa_fork_66 : decode m_Pa_fork.2.1 66 = .ok (.getfield 46, 3) := by decide +kernel
theorem d_Pa_fork_69 : decode m_Pa_fork.2.1 69 = .ok (.iconst 1, 1) := by decide +kernel
theorem d_Pa_fork_70 : decode m_Pa_fork.2.1 70 = .ok (.iadd, 1) := by decide +kernel
theorem d_Pa_fork_71 : decode m_Pa_fork.2.1 71 = .ok (.invokevirtual 139, 3) := by decide +kernel
theorem d_Pa_fork_74 : decode m_Pa_fork.2.1 74 = .ok (.istore 4, 2) := by decide +kernel
theorem d_Pa_fork_76 : decode m_Pa_fork.2.1 76 = .ok (.iload 4, 2) := by decide +kernel
theorem d_Pa_fork_78 : decode m_Pa_fork.2.1 78 = .ok (.iconst (-1), 1) := by decide +kernel
theorem d_Pa_fork_79 : decode m_Pa_fork.2.1 79 = .ok (.if_icmp .eq 12, 3) := by decide +kernel
theorem d_Pa_fork_82 : decode m_Pa_fork.2.1 82 = .ok (.aload_n 0, 1) := by decide +kernel
theorem d_Pa_fork_83 : decode m_Pa_fork.2.1 83 = .ok (.bipush 36, 2) := by decide +kernel
theorem d_Pa_fork_85 : decode m_Pa_fork.2.1 85 = .ok (.invokevirtual 95, 3) := by decide +kernel
theorem d_Pa_fork_88 : decode m_Pa_fork.2.1 88 = .ok (.ifCond .ne 5, 3) := by decide +kernel
theorem d_Pa_fork_91 : decode m_Pa_fork.2.1 91 = .ok (.iconst 0, 1) := by decide +kernel
theorem d_Pa_fork_92 : decode m_Pa_fork.2.1 92 = .ok (.ireturn, 1) := by decide +kernel
theorem d_Pa_fork_93 : decode m_Pa_fork.2.1 93 = .ok (.iload_n 1, 1) := by decide +kernel
theorem d_Pa_fork_94 : decode m_Pa_fork.2.1 94 = .ok (.ifCond .eq 38, 3) := by decide +kernel
theorem d_Pa_fork_97 : decode m_Pa_fork.2.1 97 = .ok (.aload_n 0, 1) := by decide +kernel
theorem d_Pa_fork_98 : decode m_Pa_fork.2.1 98 = .ok (.iconst 4, 1) := by decide +kernel
theorem d_Pa_fork_99 : decode m_Pa_fork.2.1 99 = .ok (.aload_n 0, 1) := by decide +kernel
theorem d_Pa_fork_100 : decode m_Pa_fork.2.1 100 = .ok (.getfield 37, 3) := by decide +kernel
theorem d_Pa_fork_103 : decode m_Pa_fork.2.1 103 = .ok (.bipush 8, 2) := by decide +kernel
theorem d_Pa_fork_105 : decode m_Pa_fork.2.1 105 = .ok (.aload_n 0, 1) := by decide +kernel
theorem d_Pa_fork_106 : decode m_Pa_fork.2.1 106 = .ok (.getfield 50, 3) := by decide +kernel
theorem d_Pa_fork_109 : decode m_Pa_fork.2.1 109 = .ok (.iload_n 3, 1) := by decide +kernel
theorem d_Pa_fork_110 : decode m_Pa_fork.2.1 110 = .ok (.invokevirtual 143, 3) := by decide +kernel
theorem d_Pa_fork_113 : decode m_Pa_fork.2.1 113 = .ok (.iload_n 2, 1) := by decide +kernel
theorem d_Pa_fork_114 : decode m_Pa_fork.2.1 114 = .ok (.iload 4, 2) := by decide +kernel
theorem d_Pa_fork_116 : decode m_Pa_fork.2.1 116 = .ok (.invokevirtual 119, 3) := by decide +kernel
theorem d_Pa_fork_119 : decode m_Pa_fork.2.1 119 = .ok (.aload_n 0, 1) := by decide +kernel
theorem d_Pa_fork_120 : decode m_Pa_fork.2.1 120 = .ok (.dup, 1) := by decide +kernel
theorem d_Pa_fork_121 : decode m_Pa_fork.2.1 121 = .ok (.getfield 50, 3) := by decide +kernel
theorem d_Pa_fork_124 : decode m_Pa_fork.2.1 124 = .ok (.iconst 1, 1) := by decide +kernel
theorem d_Pa_fork_125 : decode m_Pa_fork.2.1 125 = .ok (.iadd, 1) := by decide +kernel
theorem d_Pa_fork_126 : decode m_Pa_fork.2.1 126 = .ok (.putfield 50, 3) := by decide +kernel
theorem d_Pa_fork_129 : decode m_Pa_fork.2.1 129 = .ok (.goto 21, 3) := by decide +kernel
theorem d_Pa_fork_132 : decode m_Pa_fork.2.1 132 = .ok (.aload_n 0, 1) := by decide +kernel
theorem d_Pa_fork_133 : decode m_Pa_fork.2.1 133 = .ok (.iconst 2, 1) := by decide +kernel
theorem d_Pa_fork_134 : decode m_Pa_fork.2.1 134 = .ok (.aload_n 0, 1) := by decide +kernel
theorem d_Pa_fork_135 : decode m_Pa_fork.2.1 135 = .ok (.getfield 37, 3) := by decide +kernel
theorem d_Pa_fork_138 : decode m_Pa_fork.2.1 138 = .ok (.iconst 4, 1) := by decide +kernel
theorem d_Pa_fork_139 : decode m_Pa_fork.2.1 139 = .ok (.iconst 0, 1) := by decide +kernel
theorem d_Pa_fork_140 : decode m_Pa_fork.2.1 140 = .ok (.iload_n 3, 1) := by decide +kernel
theorem d_Pa_fork_141 : decode m_Pa_fork.2.1 141 = .ok (.invokevirtual 143, 3) := by decide +kernel
theorem d_Pa_fork_144 : decode m_Pa_fork.2.1 144 = .ok (.iconst 0, 1) := by decide +kernel
theorem d_Pa_fork_145 : decode m_Pa_fork.2.1 145 = .ok (.iload 4, 2) := by decide +kernel
theorem d_Pa_fork_147 : decode m_Pa_fork.2.1 147 = .ok (.invokevirtual 119, 3) := by decide +kernel
theorem d_Pa_fork_150 : decode m_Pa_fork.2.1 150 = .ok (.iconst 1, 1) := by decide +kernel
theorem d_Pa_fork_151 : decode m_Pa_fork.2.1 151 = .ok (.ireturn, 1) := by decide +kernel
theorem d_Pa_loopNumber_0 : decode m_Pa_loopNumber.2.1 0 = .ok (.aload_n 0, 1) := by decide +kernel
theorem d_Pa_loopNumber_1 : decode m_Pa_loopNumber.2.1 1 = .ok (.getfield 33, 3) := by decide +kernel
theorem d_Pa_loopNumber_4 : decode m_Pa_loopNumber.2.1 4 = .ok (.invokevirtual 56, 3) := by decide +kernel
theorem d_Pa_loopNumber_7 : decode m_Pa_loopNumber.2.1 7 = .ok (.istore_n 2, 1) := by decide +kernel
theorem d_Pa_loopNumber_8 : decode m_Pa_loopNumber.2.1 8 = .ok (.aload_n 0, 1) := by decide +kernel
theorem d_Pa_loopNumber_9 : decode m_Pa_loopNumber.2.1 9 = .ok (.bipush 23, 2) := by decide +kernel
theorem d_Pa_loopNumber_11 : decode m_Pa_loopNumber.2.1 11 = .ok (.invokevirtual 95, 3) := by decide +kernel
theorem d_Pa_loopNumber_14 : decode m_Pa_loopNumber.2.1 14 = .ok (.ifCond .ne 5, 3) := by decide +kernel
theorem d_Pa_loopNumber_17 : decode m_Pa_loopNumber.2.1 17 = .ok (.iconst 0, 1) := by decide +kernel
theorem d_Pa_loopNumber_18 : decode m_Pa_loopNumber.2.1 18 = .ok (.ireturn, 1) := by decide +kernel
theorem d_Pa_loopNumber_19 : decode m_Pa_loopNumber.2.1 19 = .ok (.iload_n 1, 1) := by decide +kernel
theorem d_Pa_loopNumber_20 : decode m_Pa_loopNumber.2.1 20 = .ok (.bipush 8, 2) := by decide +kernel
theorem d_Pa_loopNumber_22 : decode m_Pa_loopNumber.2.1 22 = .ok (.if_icmp .le 12, 3) := by decide +kernel
theorem d_Pa_loopNumber_25 : decode m_Pa_loopNumber.2.1 25 = .ok (.aload_n 0, 1) := by decide +kernel
theorem d_Pa_loopNumber_26 : decode m_Pa_loopNumber.2.1 26 = .ok (.getfield 37, 3) := by decide +kernel
theorem d_Pa_loopNumber_29 : decode m_Pa_loopNumber.2.1 29 = .ok (.iconst 5, 1) := by decide +kernel
theorem d_Pa_loopNumber_30 : decode m_Pa_loopNumber.2.1 30 = .ok (.iload_n 2, 1) := by decide +kernel
theorem d_Pa_loopNumber_31 : decode m_Pa_loopNumber.2.1 31 = .ok (.invokevirtual 71, 3) := by decide +kernel
theorem d_Pa_loopNumber_34 : decode m_Pa_loopNumber.2.1 34 = .ok (.aload_n 0, 1) := by decide +kernel
theorem d_Pa_loopNumber_35 : decode m_Pa_loopNumber.2.1 35 = .ok (.getfield 37, 3) := by decide +kernel
theorem d_Pa_loopNumber_38 : decode m_Pa_loopNumber.2.1 38 = .ok (.bipush 7, 2) := by decide +kernel
theorem d_Pa_loopNumber_40 : decode m_Pa_loopNumber.2.1 40 = .ok (.iload_n 1, 1) := by decide +kernel
theorem d_Pa_loopNumber_41 : decode m_Pa_loopNumber.2.1 41 = .ok (.aload_n 0, 1) := by decide +kernel
theorem d_Pa_loopNumber_42 : decode m_Pa_loopNumber.2.1 42 = .ok (.getfield 37, 3) := by decide +kernel
theorem d_Pa_loopNumber_45 : decode m_Pa_loopNumber.2.1 45 = .ok (.getfield 136, 3) := by decide +kernel
theorem d_Pa_loopNumber_48 : decode m_Pa_loopNumber.2.1 48 = .ok (.invokevirtual 143, 3) := by decide +kernel
theorem d_Pa_loopNumber_51 : decode m_Pa_loopNumber.2.1 51 = .ok (.istore_n 3, 1) := by decide +kernel
theorem d_Pa_loopNumber_52 : decode m_Pa_loopNumber.2.1 52 = .ok (.aload_n 0, 1) := by decide +kernel
theorem d_Pa_loopNumber_53 : decode m_Pa_loopNumber.2.1 53 = .ok (.getfield 37, 3) := by decide +kernel
theorem d_Pa_loopNumber_56 : decode m_Pa_loopNumber.2.1 56 = .ok (.getfield 153, 3) := by decide +kernel
theorem d_Pa_loopNumber_59 : decode m_Pa_loopNumber.2.1 59 = .ok (.iload_n 3, 1) := by decide +kernel
theorem d_Pa_loopNumber_60 : decode m_Pa_loopNumber.2.1 60 = .ok (.aload_n 0, 1) := by decide +kernel
theorem d_Pa_loopNumber_61 : decode m_Pa_loopNumber.2.1 61 = .ok (.getfield 50, 3) := by decide +kernel
theorem d_Pa_loopNumber_64 : decode m_Pa_loopNumber.2.1 64 = .ok (.iastore, 1) := by decide +kernel
theorem d_Pa_loopNumber_65 : decode m_Pa_loopNumber.2.1 65 = .ok (.iconst 1, 1) := by decide +kernel
theorem d_Pa_loopNumber_66 : decode m_Pa_loopNumber.2.1 66 = .ok (.ireturn, 1) := by decide +kernel
theorem d_Pa_enter_0 : decode m_Pa_enter.2.1 0 = .ok (.aload_n 0, 1) := by decide +kernel
theorem d_Pa_enter_1 : decode m_Pa_enter.2.1 1 = .ok (.getfield 9, 3) := by decide +kernel
theorem d_Pa_enter_4 : decode m_Pa_enter.2.1 4 = .ok (.aload_n 0, 1) := by decide +kernel
theorem d_Pa_enter_5 : decode m_Pa_enter.2.1 5 = .ok (.getfield 46, 3) := by decide +kernel
theorem d_Pa_enter_8 : decode m_Pa_enter.2.1 8 = .ok (.iload_n 1, 1) := by decide +kernel
theorem d_Pa_enter_9 : decode m_Pa_enter.2.1 9 = .ok (.iastore, 1) := by decide +kernel
theorem d_Pa_enter_10 : decode m_Pa_enter.2.1 10 = .ok (.aload_n 0, 1) := by decide +kernel
theorem d_Pa_enter_11 : decode m_Pa_enter.2.1 11 = .ok (.getfield 15, 3) := by decide +kernel
theorem d_Pa_enter_14 : decode m_Pa_enter.2.1 14 = .ok (.aload_n 0, 1) := by decide +kernel
theorem d_Pa_enter_15 : decode m_Pa_enter.2.1 15 = .ok (.getfield 46, 3) := by decide +kernel
theorem d_Pa_enter_18 : decode m_Pa_enter.2.1 18 = .ok (.iload_n 2, 1) := by decide +kernel
theorem d_Pa_enter_19 : decode m_Pa_enter.2.1 19 = .ok (.iastore, 1) := by decide +kernel
theorem d_Pa_enter_20 : decode m_Pa_enter.2.1 20 = .ok (.aload_n 0, 1) := by decide +kernel
theorem d_Pa_enter_21 : decode m_Pa_enter.2.1 21 = .ok (.getfield 18, 3) := by decide +kernel
theorem d_Pa_enter_24 : decode m_Pa_enter.2.1 24 = .ok (.aload_n 0, 1) := by decide +kernel
theorem d_Pa_enter_25 : decode m_Pa_enter.2.1 25 = .ok (.getfield 46, 3) := by decide +kernel
theorem d_Pa_enter_28 : decode m_Pa_enter.2.1 28 = .ok (.iload_n 3, 1) := by decide +kernel
theorem d_Pa_enter_29 : decode m_Pa_enter.2.1 29 = .ok (.iastore, 1) := by decide +kernel
theorem d_Pa_enter_30 : decode m_Pa_enter.2.1 30 = .ok (.aload_n 0, 1) := by decide +kernel
theorem d_Pa_enter_31 : decode m_Pa_enter.2.1 31 = .ok (.getfield 21, 3) := by decide +kernel
theorem d_Pa_enter_34 : decode m_Pa_enter.2.1 34 = .ok (.aload_n 0, 1) := by decide +kernel
theorem d_Pa_enter_35 : decode m_Pa_enter.2.1 35 = .ok (.getfield 46, 3) := by decide +kernel
theorem d_Pa_enter_38 : decode m_Pa_enter.2.1 38 = .ok (.iload 4, 2) := by decide +kernel
theorem d_Pa_enter_40 : decode m_Pa_enter.2.1 40 = .ok (.iastore, 1) := by decide +kernel
theorem d_Pa_enter_41 : decode m_Pa_enter.2.1 41 = .ok (.aload_n 0, 1) := by decide +kernel
theorem d_Pa_enter_42 : decode m_Pa_enter.2.1 42 = .ok (.getfield 24, 3) := by decide +kernel
theorem d_Pa_enter_45 : decode m_Pa_enter.2.1 45 = .ok (.aload_n 0, 1) := by decide +kernel
theorem d_Pa_enter_46 : decode m_Pa_enter.2.1 46 = .ok (.getfield 46, 3) := by decide +kernel
theorem d_Pa_enter_49 : decode m_Pa_enter.2.1 49 = .ok (.iconst 0, 1) := by decide +kernel
theorem d_Pa_enter_50 : decode m_Pa_enter.2.1 50 = .ok (.iastore, 1) := by decide +kernel
theorem d_Pa_enter_51 : decode m_Pa_enter.2.1 51 = .ok (.aload_n 0, 1) := by decide +kernel
theorem d_Pa_enter_52 : decode m_Pa_enter.2.1 52 = .ok (.dup, 1) := by decide +kernel
theorem d_Pa_enter_53 : decode m_Pa_enter.2.1 53 = .ok (.getfield 46, 3) := by decide +kernel
theorem d_Pa_enter_56 : decode m_Pa_enter.2.1 56 = .ok (.iconst 1, 1) := by decide +kernel
theorem d_Pa_enter_57 : decode m_Pa_enter.2.1 57 = .ok (.iadd, 1) := by decide +kernel
theorem d_Pa_enter_58 : decode m_Pa_enter.2.1 58 = .ok (.putfield 46, 3) := by decide +kernel
theorem d_Pa_enter_61 : decode m_Pa_enter.2.1 61 = .ok (.return_, 1) := by decide +kernel
theorem d_Pa_closeBlock_0 : decode m_Pa_closeBlock.2.1 0 = .ok (.aload_n 0, 1) := by decide +kernel
theorem d_Pa_closeBlock_1 : decode m_Pa_closeBlock.2.1 1 = .ok (.getfield 46, 3) := by decide +kernel
theorem d_Pa_closeBlock_4 : decode m_Pa_closeBlock.2.1 4 = .ok (.ifCond .eq 18, 3) := by decide +kernel
theorem d_Pa_closeBlock_7 : decode m_Pa_closeBlock.2.1 7 = .ok (.aload_n 0, 1) := by decide +kernel
theorem d_Pa_closeBlock_8 : decode m_Pa_closeBlock.2.1 8 = .ok (.getfield 9, 3) := by decide +kernel
theorem d_Pa_closeBlock_11 : decode m_Pa_closeBlock.2.1 11 = .ok (.aload_n 0, 1) := by decide +kernel
theorem d_Pa_closeBlock_12 : decode m_Pa_closeBlock.2.1 12 = .ok (.getfield 46, 3) := by decide +kernel
theorem d_Pa_closeBlock_15 : decode m_Pa_closeBlock.2.1 15 = .ok (.iconst 1, 1) := by decide +kernel
theorem d_Pa_closeBlock_16 : decode m_Pa_closeBlock.2.1 16 = .ok (.isub, 1) := by decide +kernel
theorem d_Pa_closeBlock_17 : decode m_Pa_closeBlock.2.1 17 = .ok (.iaload, 1) := by decide +kernel
theorem d_Pa_closeBlock_18 : decode m_Pa_closeBlock.2.1 18 = .ok (.iconst 1, 1) := by decide +kernel
theorem d_Pa_closeBlock_19 : decode m_Pa_closeBlock.2.1 19 = .ok (.if_icmp .eq 5, 3) := by decide +kernel
theorem d_Pa_closeBlock_22 : decode m_Pa_closeBlock.2.1 22 = .ok (.iconst 0, 1) := by decide +kernel
theorem d_Pa_closeBlock_23 : decode m_Pa_closeBlock.2.1 23 = .ok (.ireturn, 1) := by decide +kernel
theorem d_Pa_closeBlock_24 : decode m_Pa_closeBlock.2.1 24 = .ok (.aload_n 0, 1) := by decide +kernel
theorem d_Pa_closeBlock_25 : decode m_Pa_closeBlock.2.1 25 = .ok (.getfield 33, 3) := by decide +kernel
theorem d_Pa_closeBlock_28 : decode m_Pa_closeBlock.2.1 28 = .ok (.invokevirtual 78, 3) := by decide +kernel
theorem d_Pa_closeBlock_31 : decode m_Pa_closeBlock.2.1 31 = .ok (.aload_n 0, 1) := by decide +kernel
theorem d_Pa_closeBlock_32 : decode m_Pa_closeBlock.2.1 32 = .ok (.dup, 1) := by decide +kernel
theorem d_Pa_closeBlock_33 : decode m_Pa_closeBlock.2.1 33 = .ok (.getfield 46, 3) := by decide +kernel
theorem d_Pa_closeBlock_36 : decode m_Pa_closeBlock.2.1 36 = .ok (.iconst 1, 1) := by decide +kernel
theorem d_Pa_closeBlock_37 : decode m_Pa_closeBlock.2.1 37 = .ok (.isub, 1) := by decide +kernel
theorem d_Pa_closeBlock_38 : decode m_Pa_closeBlock.2.1 38 = .ok (.putfield 46, 3) := by decide +kernel
theorem d_Pa_closeBlock_41 : decode m_Pa_closeBlock.2.1 41 = .ok (.aload_n 0, 1) := by decide +kernel
theorem d_Pa_closeBlock_42 : decode m_Pa_closeBlock.2.1 42 = .ok (.aload_n 0, 1) := by decide +kernel
theorem d_Pa_closeBlock_43 : decode m_Pa_closeBlock.2.1 43 = .ok (.getfield 24, 3) := by decide +kernel
theorem d_Pa_closeBlock_46 : decode m_Pa_closeBlock.2.1 46 = .ok (.aload_n 0, 1) := by decide +kernel
theorem d_Pa_closeBlock_47 : decode m_Pa_closeBlock.2.1 47 = .ok (.getfield 46, 3) := by decide +kernel
theorem d_Pa_closeBlock_50 : decode m_Pa_closeBlock.2.1 50 = .ok (.iaload, 1) := by decide +kernel
theorem d_Pa_closeBlock_51 : decode m_Pa_closeBlock.2.1 51 = .ok (.invokevirtual 126, 3) := by decide +kernel
theorem d_Pa_closeBlock_54 : decode m_Pa_closeBlock.2.1 54 = .ok (.iconst 1, 1) := by decide +kernel
theorem d_Pa_closeBlock_55 : decode m_Pa_closeBlock.2.1 55 = .ok (.ireturn, 1) := by decide +kernel
theorem d_Pa_conclude_4 : decode m_Pa_conclude.2.1 4 = .ok (.aload_n 0, 1) := by decide +kernel
theorem d_Pa_conclude_5 : decode m_Pa_conclude.2.1 5 = .ok (.getfield 37, 3) := by decide +kernel
theorem d_Pa_conclude_8 : decode m_Pa_conclude.2.1 8 = .ok (.iconst 1, 1) := by decide +kernel
theorem d_Pa_conclude_9 : decode m_Pa_conclude.2.1 9 = .ok (.putfield 53, 3) := by decide +kernel
theorem d_Pa_conclude_12 : decode m_Pa_conclude.2.1 12 = .ok (.aload_n 0, 1) := by decide +kernel
theorem d_Pa_conclude_13 : decode m_Pa_conclude.2.1 13 = .ok (.getfield 37, 3) := by decide +kernel
theorem d_Pa_conclude_16 : decode m_Pa_conclude.2.1 16 = .ok (.aload_n 0, 1) := by decide +kernel
theorem d_Pa_conclude_17 : decode m_Pa_conclude.2.1 17 = .ok (.getfield 33, 3) := by decide +kernel
theorem d_Pa_conclude_20 : decode m_Pa_conclude.2.1 20 = .ok (.invokevirtual 56, 3) := by decide +kernel
theorem d_Pa_conclude_23 : decode m_Pa_conclude.2.1 23 = .ok (.putfield 62, 3) := by decide +kernel
theorem d_Pa_conclude_26 : decode m_Pa_conclude.2.1 26 = .ok (.goto 32, 3) := by decide +kernel
theorem d_Pa_conclude_42 : decode m_Pa_conclude.2.1 42 = .ok (.aload_n 0, 1) := by decide +kernel
theorem d_Pa_conclude_43 : decode m_Pa_conclude.2.1 43 = .ok (.getfield 37, 3) := by decide +kernel
theorem d_Pa_conclude_46 : decode m_Pa_conclude.2.1 46 = .ok (.bipush 7, 2) := by decide +kernel
theorem d_Pa_conclude_48 : decode m_Pa_conclude.2.1 48 = .ok (.aload_n 0, 1) := by decide +kernel
theorem d_Pa_conclude_49 : decode m_Pa_conclude.2.1 49 = .ok (.getfield 33, 3) := by decide +kernel
theorem d_Pa_conclude_52 : decode m_Pa_conclude.2.1 52 = .ok (.getfield 68, 3) := by decide +kernel
theorem d_Pa_conclude_55 : decode m_Pa_conclude.2.1 55 = .ok (.invokevirtual 71, 3) := by decide +kernel
theorem cd_Pa_declaration : q_cd m_Pa_declaration := ⟨by decide +kernel, List.mem_of_getElem? (i := 7) (by decide +kernel), Or.inl ⟨rfl, List.mem_of_getElem? (i := 827) (by decide +kernel)⟩⟩
theorem cV_Pa_87 : q_CV "ProofHall$Parser" 87 3 m_Pa_declaration 0 := ⟨⟨cd_Pa_declaration, by decide, by decide, by decide, by decide +kernel⟩, Or.inl (List.mem_of_getElem? (i := 824) (by decide +kernel)), List.mem_of_getElem? (i := 826) (by decide +kernel), _, _, _, rfl, by decide +kernel⟩
theorem cd_Sc_advance : q_cd m_Sc_advance := ⟨by decide +kernel, List.mem_of_getElem? (i := 2) (by decide +kernel), Or.inl ⟨rfl, List.mem_of_getElem? (i := 831) (by decide +kernel)⟩⟩
theorem cV_Pa_78 : q_CV "ProofHall$Parser" 78 1 m_Sc_advance 0 := ⟨⟨cd_Sc_advance, by decide, by decide, by decide, by decide +kernel⟩, Or.inl (List.mem_of_getElem? (i := 828) (by decide +kernel)), List.mem_of_getElem? (i := 829) (by decide +kernel), _, _, _, rfl, List.mem_append_right _ (List.mem_of_getElem? (i := 830) (by decide +kernel))⟩
theorem cd_Sc_name : q_cd m_Sc_name := ⟨by decide +kernel, List.mem_of_getElem? (i := 2) (by decide +kernel), Or.inl ⟨rfl, List.mem_of_getElem? (i := 835) (by decide +kernel)⟩⟩
theorem cV_Pa_91 : q_CV "ProofHall$Parser" 91 1 m_Sc_name 0 := ⟨⟨cd_Sc_name, by decide, by decide, by decide, by decide +kernel⟩, Or.inl (List.mem_of_getElem? (i := 832) (by decide +kernel)), List.mem_of_getElem? (i := 833) (by decide +kernel), _, _, _, rfl, List.mem_append_right _ (List.mem_of_getElem? (i := 834) (by decide +kernel))⟩
theorem cd_Sc_start : q_cd m_Sc_start := ⟨by decide +kernel, List.mem_of_getElem? (i := 2) (by decide +kernel), Or.inl ⟨rfl, List.mem_of_getElem? (i := 839) (by decide +kernel)⟩⟩
theorem cV_Pa_56 : q_CV "ProofHall$Parser" 56 1 m_Sc_start 0 := ⟨⟨cd_Sc_start, by decide, by decide, by decide, by decide +kernel⟩, Or.inl (List.mem_of_getElem? (i := 836) (by decide +kernel)), List.mem_of_getElem? (i := 837) (by decide +kernel), _, _, _, rfl, List.mem_append_right _ (List.mem_of_getElem? (i := 838) (by decide +kernel))⟩
theorem cd_Pa_accept : q_cd m_Pa_accept := ⟨by decide +kernel, List.mem_of_getElem? (i := 7) (by decide +kernel), Or.inl ⟨rfl, List.mem_of_getElem? (i := 843) (by decide +kernel)⟩⟩
theorem cV_Pa_95 : q_CV "ProofHall$Parser" 95 3 m_Pa_accept 1 := ⟨⟨cd_Pa_accept, by decide, by decide, by decide, by decide +kernel⟩, Or.inl (List.mem_of_getElem? (i := 840) (by decide +kernel)), List.mem_of_getElem? (i := 842) (by decide +kernel), _, _, _, rfl, by decide +kernel⟩
theorem cd_Sc_number : q_cd m_Sc_number := ⟨by decide +kernel, List.mem_of_getElem? (i := 2) (by decide +kernel), Or.inl ⟨rfl, List.mem_of_getElem? (i := 847) (by decide +kernel)⟩⟩
theorem cV_Pa_99 : q_CV "ProofHall$Parser" 99 1 m_Sc_number 0 := ⟨⟨cd_Sc_number, by decide, by decide, by decide, by decide +kernel⟩, Or.inl (List.mem_of_getElem? (i := 844) (by decide +kernel)), List.mem_of_getElem? (i := 845) (by decide +kernel), _, _, _, rfl, List.mem_append_right _ (List.mem_of_getElem? (i := 846) (by decide +kernel))⟩
theorem cd_Pr_find : q_cd m_Pr_find := ⟨by decide +kernel, List.mem_of_getElem? (i := 8) (by decide +kernel), Or.inl ⟨rfl, List.mem_of_getElem? (i := 851) (by decide +kernel)⟩⟩
theorem cV_Pa_102 : q_CV "ProofHall$Parser" 102 2 m_Pr_find 1 := ⟨⟨cd_Pr_find, by decide, by decide, by decide, by decide +kernel⟩, Or.inl (List.mem_of_getElem? (i := 848) (by decide +kernel)), List.mem_of_getElem? (i := 849) (by decide +kernel), _, _, _, rfl, List.mem_append_right _ (List.mem_of_getElem? (i := 850) (by decide +kernel))⟩
theorem cd_Pr_addVariable : q_cd m_Pr_addVariable := ⟨by decide +kernel, List.mem_of_getElem? (i := 8) (by decide +kernel), Or.inl ⟨rfl, List.mem_of_getElem? (i := 863) (by decide +kernel)⟩⟩
theorem cV_Pa_110 : q_CV "ProofHall$Parser" 110 2 m_Pr_addVariable 2 := ⟨⟨cd_Pr_addVariable, by decide, by decide, by decide, by decide +kernel⟩, Or.inl (List.mem_of_getElem? (i := 860) (by decide +kernel)), List.mem_of_getElem? (i := 861) (by decide +kernel), _, _, _, rfl, List.mem_append_right _ (List.mem_of_getElem? (i := 862) (by decide +kernel))⟩
theorem cd_Pr_addInput : q_cd m_Pr_addInput := ⟨by decide +kernel, List.mem_of_getElem? (i := 8) (by decide +kernel), Or.inl ⟨rfl, List.mem_of_getElem? (i := 859) (by decide +kernel)⟩⟩
theorem cV_Pa_106 : q_CV "ProofHall$Parser" 106 2 m_Pr_addInput 2 := ⟨⟨cd_Pr_addInput, by decide, by decide, by decide, by decide +kernel⟩, Or.inl (List.mem_of_getElem? (i := 856) (by decide +kernel)), List.mem_of_getElem? (i := 857) (by decide +kernel), _, _, _, rfl, List.mem_append_right _ (List.mem_of_getElem? (i := 858) (by decide +kernel))⟩
theorem cd_Pr_note : q_cd m_Pr_note := ⟨by decide +kernel, List.mem_of_getElem? (i := 8) (by decide +kernel), Or.inl ⟨rfl, List.mem_of_getElem? (i := 855) (by decide +kernel)⟩⟩
theorem cV_Pa_71 : q_CV "ProofHall$Parser" 71 2 m_Pr_note 2 := ⟨⟨cd_Pr_note, by decide, by decide, by decide, by decide +kernel⟩, Or.inl (List.mem_of_getElem? (i := 852) (by decide +kernel)), List.mem_of_getElem? (i := 853) (by decide +kernel), _, _, _, rfl, List.mem_append_right _ (List.mem_of_getElem? (i := 854) (by decide +kernel))⟩
theorem cd_Pa_simple : q_cd m_Pa_simple := ⟨by decide +kernel, List.mem_of_getElem? (i := 7) (by decide +kernel), Or.inl ⟨rfl, List.mem_of_getElem? (i := 871) (by decide +kernel)⟩⟩
theorem cV_Pa_113 : q_CV "ProofHall$Parser" 113 3 m_Pa_simple 0 := ⟨⟨cd_Pa_simple, by decide, by decide, by decide, by decide +kernel⟩, Or.inl (List.mem_of_getElem? (i := 868) (by decide +kernel)), List.mem_of_getElem? (i := 870) (by decide +kernel), _, _, _, rfl, by decide +kernel⟩
theorem cd_Pa_closeBlock : q_cd m_Pa_closeBlock := ⟨by decide +kernel, List.mem_of_getElem? (i := 7) (by decide +kernel), Or.inl ⟨rfl, List.mem_of_getElem? (i := 971) (by decide +kernel)⟩⟩
theorem cV_Pa_123 : q_CV "ProofHall$Parser" 123 3 m_Pa_closeBlock 0 := ⟨⟨cd_Pa_closeBlock, by decide, by decide, by decide, by decide +kernel⟩, Or.inl (List.mem_of_getElem? (i := 968) (by decide +kernel)), List.mem_of_getElem? (i := 970) (by decide +kernel), _, _, _, rfl, by decide +kernel⟩
theorem cd_Pa_fork : q_cd m_Pa_fork := ⟨by decide +kernel, List.mem_of_getElem? (i := 7) (by decide +kernel), Or.inl ⟨rfl, List.mem_of_getElem? (i := 959) (by decide +kernel)⟩⟩
theorem cV_Pa_116 : q_CV "ProofHall$Parser" 116 3 m_Pa_fork 0 := ⟨⟨cd_Pa_fork, by decide, by decide, by decide, by decide +kernel⟩, Or.inl (List.mem_of_getElem? (i := 956) (by decide +kernel)), List.mem_of_getElem? (i := 958) (by decide +kernel), _, _, _, rfl, by decide +kernel⟩
theorem cd_Pa_enter : q_cd m_Pa_enter := ⟨by decide +kernel, List.mem_of_getElem? (i := 7) (by decide +kernel), Or.inl ⟨rfl, List.mem_of_getElem? (i := 967) (by decide +kernel)⟩⟩
theorem cV_Pa_119 : q_CV "ProofHall$Parser" 119 3 m_Pa_enter 4 := ⟨⟨cd_Pa_enter, by decide, by decide, by decide, by decide +kernel⟩, Or.inl (List.mem_of_getElem? (i := 964) (by decide +kernel)), List.mem_of_getElem? (i := 966) (by decide +kernel), _, _, _, rfl, by decide +kernel⟩
theorem f_Pa_133 : q_F "ProofHall$Parser" 133 2 7 "I" := ⟨_, _, _, rfl, by decide, rfl, Or.inl (List.mem_of_getElem? (i := 219) (by decide +kernel))⟩
theorem cd_Pa_target : q_cd m_Pa_target := ⟨by decide +kernel, List.mem_of_getElem? (i := 7) (by decide +kernel), Or.inl ⟨rfl, List.mem_of_getElem? (i := 875) (by decide +kernel)⟩⟩
theorem cV_Pa_130 : q_CV "ProofHall$Parser" 130 3 m_Pa_target 0 := ⟨⟨cd_Pa_target, by decide, by decide, by decide, by decide +kernel⟩, Or.inl (List.mem_of_getElem? (i := 872) (by decide +kernel)), List.mem_of_getElem? (i := 874) (by decide +kernel), _, _, _, rfl, by decide +kernel⟩
theorem f_Pa_136 : q_F "ProofHall$Parser" 136 2 17 "I" := ⟨_, _, _, rfl, by decide, rfl, Or.inl (List.mem_of_getElem? (i := 250) (by decide +kernel))⟩
theorem cd_Pa_expression : q_cd m_Pa_expression := ⟨by decide +kernel, List.mem_of_getElem? (i := 7) (by decide +kernel), Or.inl ⟨rfl, List.mem_of_getElem? (i := 882) (by decide +kernel)⟩⟩
theorem cV_Pa_139 : q_CV "ProofHall$Parser" 139 3 m_Pa_expression 1 := ⟨⟨cd_Pa_expression, by decide, by decide, by decide, by decide +kernel⟩, Or.inl (List.mem_of_getElem? (i := 879) (by decide +kernel)), List.mem_of_getElem? (i := 881) (by decide +kernel), _, _, _, rfl, by decide +kernel⟩
theorem g_Pa_133 (nm : String) : q_G "ProofHall$Parser" 133 2 7 "I" nm := ⟨_, _, _, rfl, by decide, rfl, List.mem_of_getElem? (i := 219) (by decide +kernel), Or.inl rfl⟩
theorem cd_Pr_addStep : q_cd m_Pr_addStep := ⟨by decide +kernel, List.mem_of_getElem? (i := 8) (by decide +kernel), Or.inl ⟨rfl, List.mem_of_getElem? (i := 936) (by decide +kernel)⟩⟩
theorem cV_Pa_143 : q_CV "ProofHall$Parser" 143 2 m_Pr_addStep 3 := ⟨⟨cd_Pr_addStep, by decide, by decide, by decide, by decide +kernel⟩, Or.inl (List.mem_of_getElem? (i := 933) (by decide +kernel)), List.mem_of_getElem? (i := 934) (by decide +kernel), _, _, _, rfl, List.mem_append_right _ (List.mem_of_getElem? (i := 935) (by decide +kernel))⟩
theorem cd_Pa_finish : q_cd m_Pa_finish := ⟨by decide +kernel, List.mem_of_getElem? (i := 7) (by decide +kernel), Or.inl ⟨rfl, List.mem_of_getElem? (i := 940) (by decide +kernel)⟩⟩
theorem cV_Pa_126 : q_CV "ProofHall$Parser" 126 3 m_Pa_finish 1 := ⟨⟨cd_Pa_finish, by decide, by decide, by decide, by decide +kernel⟩, Or.inl (List.mem_of_getElem? (i := 937) (by decide +kernel)), List.mem_of_getElem? (i := 939) (by decide +kernel), _, _, _, rfl, by decide +kernel⟩
theorem g_Pa_174 (nm : String) : q_G "ProofHall$Parser" 174 3 13 "I" nm := ⟨_, _, _, rfl, by decide, rfl, List.mem_of_getElem? (i := 156) (by decide +kernel), Or.inl rfl⟩
theorem g_Pa_177 (nm : String) : q_G "ProofHall$Parser" 177 3 10 "I" nm := ⟨_, _, _, rfl, by decide, rfl, List.mem_of_getElem? (i := 153) (by decide +kernel), Or.inl rfl⟩
theorem g_Pa_180 (nm : String) : q_G "ProofHall$Parser" 180 3 12 "I" nm := ⟨_, _, _, rfl, by decide, rfl, List.mem_of_getElem? (i := 155) (by decide +kernel), Or.inl rfl⟩
theorem g_Pa_183 (nm : String) : q_G "ProofHall$Parser" 183 3 14 "I" nm := ⟨_, _, _, rfl, by decide, rfl, List.mem_of_getElem? (i := 157) (by decide +kernel), Or.inl rfl⟩
theorem cd_Pa_operand : q_cd m_Pa_operand := ⟨by decide +kernel, List.mem_of_getElem? (i := 7) (by decide +kernel), Or.inl ⟨rfl, List.mem_of_getElem? (i := 886) (by decide +kernel)⟩⟩
theorem cV_Pa_184 : q_CV "ProofHall$Parser" 184 3 m_Pa_operand 0 := ⟨⟨cd_Pa_operand, by decide, by decide, by decide, by decide +kernel⟩, Or.inl (List.mem_of_getElem? (i := 883) (by decide +kernel)), List.mem_of_getElem? (i := 885) (by decide +kernel), _, _, _, rfl, by decide +kernel⟩
theorem cd_Pa_follow : q_cd m_Pa_follow := ⟨by decide +kernel, List.mem_of_getElem? (i := 7) (by decide +kernel), Or.inl ⟨rfl, List.mem_of_getElem? (i := 909) (by decide +kernel)⟩⟩
theorem cV_Pa_187 : q_CV "ProofHall$Parser" 187 3 m_Pa_follow 0 := ⟨⟨cd_Pa_follow, by decide, by decide, by decide, by decide +kernel⟩, Or.inl (List.mem_of_getElem? (i := 906) (by decide +kernel)), List.mem_of_getElem? (i := 908) (by decide +kernel), _, _, _, rfl, by decide +kernel⟩
theorem f_Pa_177 : q_F "ProofHall$Parser" 177 3 10 "I" := ⟨_, _, _, rfl, by decide, rfl, Or.inl (List.mem_of_getElem? (i := 153) (by decide +kernel))⟩
theorem f_Pa_183 : q_F "ProofHall$Parser" 183 3 14 "I" := ⟨_, _, _, rfl, by decide, rfl, Or.inl (List.mem_of_getElem? (i := 157) (by decide +kernel))⟩
theorem f_Pa_174 : q_F "ProofHall$Parser" 174 3 13 "I" := ⟨_, _, _, rfl, by decide, rfl, Or.inl (List.mem_of_getElem? (i := 156) (by decide +kernel))⟩
theorem cd_Pa_deepen : q_cd m_Pa_deepen := ⟨by decide +kernel, List.mem_of_getElem? (i := 7) (by decide +kernel), Or.inl ⟨rfl, List.mem_of_getElem? (i := 901) (by decide +kernel)⟩⟩
theorem cV_Pa_200 : q_CV "ProofHall$Parser" 200 3 m_Pa_deepen 1 := ⟨⟨cd_Pa_deepen, by decide, by decide, by decide, by decide +kernel⟩, Or.inl (List.mem_of_getElem? (i := 898) (by decide +kernel)), List.mem_of_getElem? (i := 900) (by decide +kernel), _, _, _, rfl, by decide +kernel⟩
theorem cd_Pa_leastWidth : q_cd m_Pa_leastWidth := ⟨by decide +kernel, List.mem_of_getElem? (i := 7) (by decide +kernel), Or.inl ⟨rfl, List.mem_of_getElem? (i := 897) (by decide +kernel)⟩⟩
theorem cS_Pa_193 : q_CS "ProofHall$Parser" 193 m_Pa_leastWidth 1 := ⟨⟨cd_Pa_leastWidth, by decide, by decide, by decide, by decide +kernel⟩, Or.inl (List.mem_of_getElem? (i := 895) (by decide +kernel)), List.mem_of_getElem? (i := 896) (by decide +kernel)⟩
theorem cd_Pa_named : q_cd m_Pa_named := ⟨by decide +kernel, List.mem_of_getElem? (i := 7) (by decide +kernel), Or.inl ⟨rfl, List.mem_of_getElem? (i := 890) (by decide +kernel)⟩⟩
theorem cV_Pa_190 : q_CV "ProofHall$Parser" 190 3 m_Pa_named 0 := ⟨⟨cd_Pa_named, by decide, by decide, by decide, by decide +kernel⟩, Or.inl (List.mem_of_getElem? (i := 887) (by decide +kernel)), List.mem_of_getElem? (i := 889) (by decide +kernel), _, _, _, rfl, by decide +kernel⟩
theorem cd_Pa_push : q_cd m_Pa_push := ⟨by decide +kernel, List.mem_of_getElem? (i := 7) (by decide +kernel), Or.inl ⟨rfl, List.mem_of_getElem? (i := 894) (by decide +kernel)⟩⟩
theorem cV_Pa_196 : q_CV "ProofHall$Parser" 196 3 m_Pa_push 3 := ⟨⟨cd_Pa_push, by decide, by decide, by decide, by decide +kernel⟩, Or.inl (List.mem_of_getElem? (i := 891) (by decide +kernel)), List.mem_of_getElem? (i := 893) (by decide +kernel), _, _, _, rfl, by decide +kernel⟩
theorem f_Pa_206 : q_FR "ProofHall$Parser" 206 2 5 := ⟨"[I", by decide, ⟨_, _, _, rfl, by decide, rfl, Or.inl (List.mem_of_getElem? (i := 214) (by decide +kernel))⟩⟩
theorem f_Pa_203 : q_FR "ProofHall$Parser" 203 2 2 := ⟨"[I", by decide, ⟨_, _, _, rfl, by decide, rfl, Or.inl (List.mem_of_getElem? (i := 204) (by decide +kernel))⟩⟩
theorem f_Pa_180 : q_F "ProofHall$Parser" 180 3 12 "I" := ⟨_, _, _, rfl, by decide, rfl, Or.inl (List.mem_of_getElem? (i := 155) (by decide +kernel))⟩
theorem f_Pa_30 : q_FR "ProofHall$Parser" 30 3 11 := ⟨"[I", by decide, ⟨_, _, _, rfl, by decide, rfl, Or.inl (List.mem_of_getElem? (i := 154) (by decide +kernel))⟩⟩
theorem f_Pa_209 : q_FR "ProofHall$Parser" 209 2 18 := ⟨"[I", by decide, ⟨_, _, _, rfl, by decide, rfl, Or.inl (List.mem_of_getElem? (i := 254) (by decide +kernel))⟩⟩
theorem f_Pa_212 : q_FR "ProofHall$Parser" 212 2 19 := ⟨"[I", by decide, ⟨_, _, _, rfl, by decide, rfl, Or.inl (List.mem_of_getElem? (i := 258) (by decide +kernel))⟩⟩
theorem f_Pa_214 : q_FR "ProofHall$Parser" 214 2 20 := ⟨"[I", by decide, ⟨_, _, _, rfl, by decide, rfl, Or.inl (List.mem_of_getElem? (i := 262) (by decide +kernel))⟩⟩
theorem g_Pa_136 (nm : String) : q_G "ProofHall$Parser" 136 2 17 "I" nm := ⟨_, _, _, rfl, by decide, rfl, List.mem_of_getElem? (i := 250) (by decide +kernel), Or.inl rfl⟩
theorem cd_Pa_pushSign : q_cd m_Pa_pushSign := ⟨by decide +kernel, List.mem_of_getElem? (i := 7) (by decide +kernel), Or.inl ⟨rfl, List.mem_of_getElem? (i := 905) (by decide +kernel)⟩⟩
theorem cV_Pa_217 : q_CV "ProofHall$Parser" 217 3 m_Pa_pushSign 1 := ⟨⟨cd_Pa_pushSign, by decide, by decide, by decide, by decide +kernel⟩, Or.inl (List.mem_of_getElem? (i := 902) (by decide +kernel)), List.mem_of_getElem? (i := 904) (by decide +kernel), _, _, _, rfl, by decide +kernel⟩
theorem f_Pa_27 : q_FR "ProofHall$Parser" 27 3 9 := ⟨"[I", by decide, ⟨_, _, _, rfl, by decide, rfl, Or.inl (List.mem_of_getElem? (i := 152) (by decide +kernel))⟩⟩
theorem cd_Pa_reduce : q_cd m_Pa_reduce := ⟨by decide +kernel, List.mem_of_getElem? (i := 7) (by decide +kernel), Or.inl ⟨rfl, List.mem_of_getElem? (i := 915) (by decide +kernel)⟩⟩
theorem cV_Pa_223 : q_CV "ProofHall$Parser" 223 3 m_Pa_reduce 1 := ⟨⟨cd_Pa_reduce, by decide, by decide, by decide, by decide +kernel⟩, Or.inl (List.mem_of_getElem? (i := 912) (by decide +kernel)), List.mem_of_getElem? (i := 914) (by decide +kernel), _, _, _, rfl, by decide +kernel⟩
theorem cd_Pa_reduceChoices : q_cd m_Pa_reduceChoices := ⟨by decide +kernel, List.mem_of_getElem? (i := 7) (by decide +kernel), Or.inl ⟨rfl, List.mem_of_getElem? (i := 932) (by decide +kernel)⟩⟩
theorem cV_Pa_226 : q_CV "ProofHall$Parser" 226 3 m_Pa_reduceChoices 0 := ⟨⟨cd_Pa_reduceChoices, by decide, by decide, by decide, by decide +kernel⟩, Or.inl (List.mem_of_getElem? (i := 929) (by decide +kernel)), List.mem_of_getElem? (i := 931) (by decide +kernel), _, _, _, rfl, by decide +kernel⟩
theorem cd_Pa_topSign : q_cd m_Pa_topSign := ⟨by decide +kernel, List.mem_of_getElem? (i := 7) (by decide +kernel), Or.inl ⟨rfl, List.mem_of_getElem? (i := 919) (by decide +kernel)⟩⟩
theorem cV_Pa_229 : q_CV "ProofHall$Parser" 229 3 m_Pa_topSign 0 := ⟨⟨cd_Pa_topSign, by decide, by decide, by decide, by decide +kernel⟩, Or.inl (List.mem_of_getElem? (i := 916) (by decide +kernel)), List.mem_of_getElem? (i := 918) (by decide +kernel), _, _, _, rfl, by decide +kernel⟩
theorem cd_Pa_apply : q_cd m_Pa_apply := ⟨by decide +kernel, List.mem_of_getElem? (i := 7) (by decide +kernel), Or.inl ⟨rfl, List.mem_of_getElem? (i := 923) (by decide +kernel)⟩⟩
theorem cV_Pa_232 : q_CV "ProofHall$Parser" 232 3 m_Pa_apply 1 := ⟨⟨cd_Pa_apply, by decide, by decide, by decide, by decide +kernel⟩, Or.inl (List.mem_of_getElem? (i := 920) (by decide +kernel)), List.mem_of_getElem? (i := 922) (by decide +kernel), _, _, _, rfl, by decide +kernel⟩
theorem cd_Pa_capped : q_cd m_Pa_capped := ⟨by decide +kernel, List.mem_of_getElem? (i := 7) (by decide +kernel), Or.inl ⟨rfl, List.mem_of_getElem? (i := 943) (by decide +kernel)⟩⟩
theorem cS_Pa_156 : q_CS "ProofHall$Parser" 156 m_Pa_capped 1 := ⟨⟨cd_Pa_capped, by decide, by decide, by decide, by decide +kernel⟩, Or.inl (List.mem_of_getElem? (i := 941) (by decide +kernel)), List.mem_of_getElem? (i := 942) (by decide +kernel)⟩
theorem f_Pa_24 : q_FR "ProofHall$Parser" 24 3 6 := ⟨"[I", by decide, ⟨_, _, _, rfl, by decide, rfl, Or.inl (List.mem_of_getElem? (i := 149) (by decide +kernel))⟩⟩
theorem g_Pa_65 (nm : String) : q_G "ProofHall$Parser" 65 2 8 "I" nm := ⟨_, _, _, rfl, by decide, rfl, List.mem_of_getElem? (i := 221) (by decide +kernel), Or.inl rfl⟩
theorem f_Pa_9 : q_FR "ProofHall$Parser" 9 3 2 := ⟨"[I", by decide, ⟨_, _, _, rfl, by decide, rfl, Or.inl (List.mem_of_getElem? (i := 145) (by decide +kernel))⟩⟩
theorem cd_Pa_closeBranch : q_cd m_Pa_closeBranch := ⟨by decide +kernel, List.mem_of_getElem? (i := 7) (by decide +kernel), Or.inl ⟨rfl, List.mem_of_getElem? (i := 955) (by decide +kernel)⟩⟩
theorem cV_Pa_165 : q_CV "ProofHall$Parser" 165 3 m_Pa_closeBranch 1 := ⟨⟨cd_Pa_closeBranch, by decide, by decide, by decide, by decide +kernel⟩, Or.inl (List.mem_of_getElem? (i := 952) (by decide +kernel)), List.mem_of_getElem? (i := 954) (by decide +kernel), _, _, _, rfl, by decide +kernel⟩
theorem cd_Pa_closeLoop : q_cd m_Pa_closeLoop := ⟨by decide +kernel, List.mem_of_getElem? (i := 7) (by decide +kernel), Or.inl ⟨rfl, List.mem_of_getElem? (i := 951) (by decide +kernel)⟩⟩
theorem cV_Pa_162 : q_CV "ProofHall$Parser" 162 3 m_Pa_closeLoop 1 := ⟨⟨cd_Pa_closeLoop, by decide, by decide, by decide, by decide +kernel⟩, Or.inl (List.mem_of_getElem? (i := 948) (by decide +kernel)), List.mem_of_getElem? (i := 950) (by decide +kernel), _, _, _, rfl, by decide +kernel⟩
theorem cd_Pa_goOnWithElse : q_cd m_Pa_goOnWithElse := ⟨by decide +kernel, List.mem_of_getElem? (i := 7) (by decide +kernel), Or.inl ⟨rfl, List.mem_of_getElem? (i := 947) (by decide +kernel)⟩⟩
theorem cV_Pa_159 : q_CV "ProofHall$Parser" 159 3 m_Pa_goOnWithElse 1 := ⟨⟨cd_Pa_goOnWithElse, by decide, by decide, by decide, by decide +kernel⟩, Or.inl (List.mem_of_getElem? (i := 944) (by decide +kernel)), List.mem_of_getElem? (i := 946) (by decide +kernel), _, _, _, rfl, by decide +kernel⟩
theorem f_Pa_153 : q_FR "ProofHall$Parser" 153 2 16 := ⟨"[I", by decide, ⟨_, _, _, rfl, by decide, rfl, Or.inl (List.mem_of_getElem? (i := 248) (by decide +kernel))⟩⟩
theorem f_Pa_15 : q_FR "ProofHall$Parser" 15 3 3 := ⟨"[I", by decide, ⟨_, _, _, rfl, by decide, rfl, Or.inl (List.mem_of_getElem? (i := 146) (by decide +kernel))⟩⟩
theorem f_Pa_168 : q_F "ProofHall$Parser" 168 2 11 "I" := ⟨_, _, _, rfl, by decide, rfl, Or.inl (List.mem_of_getElem? (i := 232) (by decide +kernel))⟩
theorem f_Pa_50 : q_F "ProofHall$Parser" 50 3 8 "I" := ⟨_, _, _, rfl, by decide, rfl, Or.inl (List.mem_of_getElem? (i := 151) (by decide +kernel))⟩
theorem f_Pa_18 : q_FR "ProofHall$Parser" 18 3 4 := ⟨"[I", by decide, ⟨_, _, _, rfl, by decide, rfl, Or.inl (List.mem_of_getElem? (i := 147) (by decide +kernel))⟩⟩
theorem f_Pa_21 : q_FR "ProofHall$Parser" 21 3 5 := ⟨"[I", by decide, ⟨_, _, _, rfl, by decide, rfl, Or.inl (List.mem_of_getElem? (i := 148) (by decide +kernel))⟩⟩
theorem f_Pa_171 : q_F "ProofHall$Parser" 171 2 4 "I" := ⟨_, _, _, rfl, by decide, rfl, Or.inl (List.mem_of_getElem? (i := 208) (by decide +kernel))⟩
theorem cd_Pa_loopNumber : q_cd m_Pa_loopNumber := ⟨by decide +kernel, List.mem_of_getElem? (i := 7) (by decide +kernel), Or.inl ⟨rfl, List.mem_of_getElem? (i := 963) (by decide +kernel)⟩⟩
theorem cV_Pa_150 : q_CV "ProofHall$Parser" 150 3 m_Pa_loopNumber 1 := ⟨⟨cd_Pa_loopNumber, by decide, by decide, by decide, by decide +kernel⟩, Or.inl (List.mem_of_getElem? (i := 960) (by decide +kernel)), List.mem_of_getElem? (i := 962) (by decide +kernel), _, _, _, rfl, by decide +kernel⟩
theorem f_Pa_68 : q_F "ProofHall$Parser" 68 1 2 "I" := ⟨_, _, _, rfl, by decide, rfl, Or.inl (List.mem_of_getElem? (i := 108) (by decide +kernel))⟩
theorem g_Pa_53 (nm : String) : q_G "ProofHall$Parser" 53 2 9 "I" nm := ⟨_, _, _, rfl, by decide, rfl, List.mem_of_getElem? (i := 224) (by decide +kernel), Or.inl rfl⟩
theorem g_Pa_62 (nm : String) : q_G "ProofHall$Parser" 62 2 10 "I" nm := ⟨_, _, _, rfl, by decide, rfl, List.mem_of_getElem? (i := 227) (by decide +kernel), Or.inl rfl⟩
set_option maxHeartbeats 2000000 in
theorem b_Pa_begin_0 {ω : q_W} {σ : q_H} {Q : q_R → q_H → Prop} {d mc ms : Nat}  {p : Nat} (hp : p = 16 ∨ p = 29) (hE : q_E σ) (h : (J ω m_Pr_clear d 0 0 0 0 0 [(0, .ref p)] [] (zr (zr σ 8 0 2) 8 1 p) (q_kv (fun τ => J ω m_Pa_begin (d + 1) mc ms 0 0 17 [(0, .ref 8)] [] τ Q)))) : J ω m_Pa_begin (d + 1) mc ms 0 0 0 [(0, .ref 8), (1, .ref 2), (2, .ref p)] [] σ Q := by
  refine j_aload_n d_Pa_begin_0 0 rfl ?_
  refine j_aload_n d_Pa_begin_1 1 rfl ?_
  refine zj_putR (g_Pa_33 _) d_Pa_begin_2 (tg_8 hE) (q_okE hE (by decide)) (by decide) ?_
  refine j_aload_n d_Pa_begin_5 0 rfl ?_
  refine j_aload_n d_Pa_begin_6 2 rfl ?_
  refine zj_putR (g_Pa_37 _) d_Pa_begin_7 (tg_8 (zr_E hE (by decide))) (q_okE (zr_E hE (by decide)) (by decide)) (by omega) ?_
  refine j_aload_n d_Pa_begin_10 0 rfl ?_
  refine j_getR p f_Pa_37 d_Pa_begin_11 (tg_8 (zr_E (zr_E hE (by decide)) (by decide))) (q_okE (zr_E (zr_E hE (by decide)) (by decide)) (by decide)) (zr_s) (by omega) ?_
  refine j_callV m_Pr_clear [] [] d 0 0 cV_Pa_41 d_Pa_begin_14 rfl rfl (tY_p_0 (zr_E (zr_E hE (by decide)) (by decide)) hp) (q_okE (zr_E (zr_E hE (by decide)) (by decide)) (by omega)) (Nat.le_of_ble_eq_true rfl) (Nat.le_refl _) (Nat.le_of_ble_eq_true rfl) (Nat.zero_le _) (Nat.zero_le _) h (fun v τ h => ?_) (fun x τ h => ?_)
  · obtain ⟨e1, h⟩ := h; cases e1; exact j_sel [0] rfl h
  · obtain ⟨e1, h⟩ := h; cases e1
set_option maxHeartbeats 2000000 in
theorem b_Pa_begin_17 {ω : q_W} {σ : q_H} {Q : q_R → q_H → Prop} {d mc ms : Nat}  {p : Nat} (hp : p = 16 ∨ p = 29) (hE : q_E σ) (h : (Q (.inl none) (zs (zs σ 8 7 0) 8 8 0))) : J ω m_Pa_begin (d + 1) mc ms 0 0 17 [(0, .ref 8)] [] σ Q := by
  refine j_aload_n d_Pa_begin_17 0 rfl ?_
  refine j_iconst (v := zI 0) d_Pa_begin_18 (by decide) ?_
  refine zj_putI (g_Pa_46 _) d_Pa_begin_19 (tg_8 hE) (q_okE hE (by decide)) ?_
  refine j_aload_n d_Pa_begin_22 0 rfl ?_
  refine j_iconst (v := zI 0) d_Pa_begin_23 (by decide) ?_
  refine zj_putI (g_Pa_50 _) d_Pa_begin_24 (tg_8 (zs_E hE)) (q_okE (zs_E hE) (by decide)) ?_
  exact j_vret d_Pa_begin_27 rfl (Nat.zero_le _) (Nat.zero_le _) h
set_option maxHeartbeats 2000000 in
theorem b_Pa_declarations_0 {ω : q_W} {σ : q_H} {Q : q_R → q_H → Prop} {d mc ms : Nat}  {p : Nat} (hp : p = 16 ∨ p = 29) (r80 : q_r σ 8 0 = 2) (r81 : q_r σ 8 1 = p) (hE : q_E σ) (h : (J ω m_Pa_declarations (d + 1) mc ms 0 0 4 [(0, .ref 8), (1, .int (zI 1)), (2, .int (zI 0))] [] σ Q)) : J ω m_Pa_declarations (d + 1) mc ms 0 0 0 [(0, .ref 8)] [] σ Q := by
  refine j_iconst (v := zI 1) d_Pa_declarations_0 (by decide) ?_
  refine j_istore_n (L' := [(1, .int (zI 1)), (0, .ref 8)]) d_Pa_declarations_1 (by decide) rfl ?_
  refine j_iconst (v := zI 0) d_Pa_declarations_2 (by decide) ?_
  refine j_istore_n (L' := [(2, .int (zI 0)), (1, .int (zI 1)), (0, .ref 8)]) d_Pa_declarations_3 (by decide) rfl ?_
  exact j_sel [2, 1, 0] rfl h
set_option maxHeartbeats 2000000 in
theorem b_Pa_declarations_4 {ω : q_W} {σ : q_H} {Q : q_R → q_H → Prop} {d mc ms : Nat} {x1 : Int} {x2 : Int} {p : Nat} (hp : p = 16 ∨ p = 29) (r80 : q_r σ 8 0 = 2) (r81 : q_r σ 8 1 = p) (hE : q_E σ) (h : inR x2 ∧ q_imp (x2 ≥ 4096) ((x1 = 0 ∨ x1 = 1) ∧ (Q (.inl (some (.int (zI x1)))) σ)) ∧ q_imp (x2 < 4096) (inR x1 ∧ q_imp (x1 = 0) ((x1 = 0 ∨ x1 = 1) ∧ (Q (.inl (some (.int (zI x1)))) σ)) ∧ q_imp (x1 ≠ 0) ((0 ≤ (z σ 2 8) ∧ (z σ 2 8) < 4097) ∧ q_imp ((z σ 4 (z σ 2 8).toNat) = 39) ((J ω m_Pa_declaration d 0 0 0 0 0 [(0, .ref 8)] [] σ (q_ki (fun v τ => J ω m_Pa_declarations (d + 1) mc ms 0 0 45 [(0, .ref 8), (2, .int (zI x2))] [.int (zI v)] τ Q)))) ∧ q_imp ((z σ 4 (z σ 2 8).toNat) ≠ 39) (q_imp ((z σ 4 (z σ 2 8).toNat) = 40) ((J ω m_Pa_declaration d 0 0 0 0 0 [(0, .ref 8)] [] σ (q_ki (fun v τ => J ω m_Pa_declarations (d + 1) mc ms 0 0 45 [(0, .ref 8), (2, .int (zI x2))] [.int (zI v)] τ Q)))) ∧ q_imp ((z σ 4 (z σ 2 8).toNat) ≠ 40) ((Q (.inl (some (.int (zI 1)))) σ)))))) : J ω m_Pa_declarations (d + 1) mc ms 0 0 4 [(0, .ref 8), (1, .int (zI x1)), (2, .int (zI x2))] [] σ Q := by
  refine j_iload_n d_Pa_declarations_4 2 rfl ?_
  refine j_sipush (v := zI 4096) d_Pa_declarations_5 (by decide) ?_
  obtain ⟨r1, h⟩ := h
  obtain ⟨h1, h2⟩ := h
  refine zj_icmp_ge 52 d_Pa_declarations_8 (by decide) r1 ⟨by decide, by decide⟩ (fun k2 => ?_) (fun k2 => ?_)
  · have h := h1 k2
    refine j_iload_n d_Pa_declarations_52 1 rfl ?_
    obtain ⟨c3, h⟩ := h
    exact zj_zret d_Pa_declarations_53 rfl c3 (Nat.zero_le _) (Nat.zero_le _) h
  · have h := h2 k2
    refine j_iload_n d_Pa_declarations_11 1 rfl ?_
    obtain ⟨r4, h⟩ := h
    obtain ⟨h1, h2⟩ := h
    refine zj_if_eq 52 d_Pa_declarations_12 (by decide) r4 (fun k5 => ?_) (fun k5 => ?_)
    · have h := h1 k5
      refine j_iload_n d_Pa_declarations_52 1 rfl ?_
      obtain ⟨c6, h⟩ := h
      exact zj_zret d_Pa_declarations_53 rfl c6 (Nat.zero_le _) (Nat.zero_le _) h
    · have h := h2 k5
      refine j_aload_n d_Pa_declarations_15 0 rfl ?_
      refine j_getR 2 f_Pa_33 d_Pa_declarations_16 (tg_8 hE) (q_okE hE (by decide)) (r80) (by decide) ?_
      obtain ⟨c7, h⟩ := h
      refine j_callV m_Sc_kind [] [] 0 0 0 cV_Pa_75 d_Pa_declarations_19 rfl rfl (tg_2 hE) (q_okE hE (by decide)) (Nat.le_of_ble_eq_true rfl) (Nat.succ_le_succ (Nat.zero_le _)) (Nat.le_of_ble_eq_true rfl) (Nat.zero_le _) (Nat.zero_le _) (c_Sc_kind hE c7 (q_z _ _ _) (q_z _ _ _)) (fun v τ h => ?_) (fun x τ h => absurd h.1 (by simp))
      obtain ⟨e1, e2⟩ := h; cases e1; rw [e2]
      refine j_bipush (v := zI 39) d_Pa_declarations_22 (by decide) ?_
      obtain ⟨h1, h2⟩ := h
      refine zj_icmp_eq 41 d_Pa_declarations_24 (by decide) (z_R _ _ _) ⟨by decide, by decide⟩ (fun k8 => ?_) (fun k8 => ?_)
      · have h := h1 k8
        refine j_aload_n d_Pa_declarations_41 0 rfl ?_
        refine j_callV m_Pa_declaration [] [] d 0 0 cV_Pa_87 d_Pa_declarations_42 rfl rfl (tg_8 hE) (q_okE hE (by decide)) (Nat.le_of_ble_eq_true rfl) (Nat.le_refl _) (Nat.le_of_ble_eq_true rfl) (Nat.zero_le _) (Nat.zero_le _) h (fun v τ h => ?_) (fun x τ h => ?_)
        · obtain ⟨v, hv, e1, h⟩ := h; cases e1; exact j_sel [0, 2] rfl h
        · obtain ⟨v, hv, e1, h⟩ := h; cases e1
      · have h := h2 k8
        refine j_aload_n d_Pa_declarations_27 0 rfl ?_
        refine j_getR 2 f_Pa_33 d_Pa_declarations_28 (tg_8 hE) (q_okE hE (by decide)) (r80) (by decide) ?_
        refine j_callV m_Sc_kind [] [] 0 0 0 cV_Pa_75 d_Pa_declarations_31 rfl rfl (tg_2 hE) (q_okE hE (by decide)) (Nat.le_of_ble_eq_true rfl) (Nat.succ_le_succ (Nat.zero_le _)) (Nat.le_of_ble_eq_true rfl) (Nat.zero_le _) (Nat.zero_le _) (c_Sc_kind hE c7 (q_z _ _ _) (q_z _ _ _)) (fun v τ h => ?_) (fun x τ h => absurd h.1 (by simp))
        obtain ⟨e1, e2⟩ := h; cases e1; rw [e2]
        refine j_bipush (v := zI 40) d_Pa_declarations_34 (by decide) ?_
        obtain ⟨h1, h2⟩ := h
        refine zj_icmp_eq 41 d_Pa_declarations_36 (by decide) (z_R _ _ _) ⟨by decide, by decide⟩ (fun k9 => ?_) (fun k9 => ?_)
        · have h := h1 k9
          refine j_aload_n d_Pa_declarations_41 0 rfl ?_
          refine j_callV m_Pa_declaration [] [] d 0 0 cV_Pa_87 d_Pa_declarations_42 rfl rfl (tg_8 hE) (q_okE hE (by decide)) (Nat.le_of_ble_eq_true rfl) (Nat.le_refl _) (Nat.le_of_ble_eq_true rfl) (Nat.zero_le _) (Nat.zero_le _) h (fun v τ h => ?_) (fun x τ h => ?_)
          · obtain ⟨v, hv, e1, h⟩ := h; cases e1; exact j_sel [0, 2] rfl h
          · obtain ⟨v, hv, e1, h⟩ := h; cases e1
        · have h := h2 k9
          refine j_iconst (v := zI 1) d_Pa_declarations_39 (by decide) ?_
          exact zj_zret d_Pa_declarations_40 rfl (by decide) (Nat.zero_le _) (Nat.zero_le _) h
set_option maxHeartbeats 2000000 in
theorem b_Pa_declarations_45 {ω : q_W} {σ : q_H} {Q : q_R → q_H → Prop} {d mc ms : Nat} {x2 : Int} {y0 : Int} {p : Nat} (hp : p = 16 ∨ p = 29) (r80 : q_r σ 8 0 = 2) (r81 : q_r σ 8 1 = p) (hE : q_E σ) (h : (J ω m_Pa_declarations (d + 1) mc ms 0 0 4 [(0, .ref 8), (1, .int (zI y0)), (2, .int (zI (x2 + 1)))] [] σ Q)) : J ω m_Pa_declarations (d + 1) mc ms 0 0 45 [(0, .ref 8), (2, .int (zI x2))] [.int (zI y0)] σ Q := by
  refine j_istore_n (L' := [(1, .int (zI y0)), (0, .ref 8), (2, .int (zI x2))]) d_Pa_declarations_45 (by decide) rfl ?_
  refine zj_iinc (L' := [(2, .int (zI (x2 + 1))), (1, .int (zI y0)), (0, .ref 8)]) (x2 + 1) d_Pa_declarations_46 2 rfl (by omega) (by decide) rfl ?_
  refine j_goto 4 d_Pa_declarations_49 (by decide) ?_
  exact j_sel [2, 1, 0] rfl h
set_option maxHeartbeats 2000000 in
theorem b_Pa_declaration_0 {ω : q_W} {σ : q_H} {Q : q_R → q_H → Prop} {d mc ms : Nat}  {p : Nat} (hp : p = 16 ∨ p = 29) (r80 : q_r σ 8 0 = 2) (r81 : q_r σ 8 1 = p) (hE : q_E σ) (h : (0 ≤ (z σ 2 8) ∧ (z σ 2 8) < 4097) ∧ q_imp ((z σ 4 (z σ 2 8).toNat) ≠ 39) ((J ω m_Pa_declaration (d + 1) mc ms 0 0 17 [(0, .ref 8)] [.int (zI 0)] σ Q)) ∧ q_imp ((z σ 4 (z σ 2 8).toNat) = 39) ((J ω m_Pa_declaration (d + 1) mc ms 0 0 17 [(0, .ref 8)] [.int (zI 1)] σ Q))) : J ω m_Pa_declaration (d + 1) mc ms 0 0 0 [(0, .ref 8)] [] σ Q := by
  refine j_aload_n d_Pa_declaration_0 0 rfl ?_
  refine j_getR 2 f_Pa_33 d_Pa_declaration_1 (tg_8 hE) (q_okE hE (by decide)) (r80) (by decide) ?_
  obtain ⟨c1, h⟩ := h
  refine j_callV m_Sc_kind [] [] 0 0 0 cV_Pa_75 d_Pa_declaration_4 rfl rfl (tg_2 hE) (q_okE hE (by decide)) (Nat.le_of_ble_eq_true rfl) (Nat.succ_le_succ (Nat.zero_le _)) (Nat.le_of_ble_eq_true rfl) (Nat.zero_le _) (Nat.zero_le _) (c_Sc_kind hE c1 (q_z _ _ _) (q_z _ _ _)) (fun v τ h => ?_) (fun x τ h => absurd h.1 (by simp))
  obtain ⟨e1, e2⟩ := h; cases e1; rw [e2]
  refine j_bipush (v := zI 39) d_Pa_declaration_7 (by decide) ?_
  obtain ⟨h1, h2⟩ := h
  refine zj_icmp_ne 16 d_Pa_declaration_9 (by decide) (z_R _ _ _) ⟨by decide, by decide⟩ (fun k2 => ?_) (fun k2 => ?_)
  · have h := h1 k2
    refine j_iconst (v := zI 0) d_Pa_declaration_16 (by decide) ?_
    exact j_sel [0] rfl h
  · have h := h2 k2
    refine j_iconst (v := zI 1) d_Pa_declaration_12 (by decide) ?_
    refine j_goto 17 d_Pa_declaration_13 (by decide) ?_
    exact j_sel [0] rfl h
set_option maxHeartbeats 2000000 in
theorem b_Pa_declaration_17 {ω : q_W} {σ : q_H} {Q : q_R → q_H → Prop} {d mc ms : Nat} {y0 : Int} {p : Nat} (hp : p = 16 ∨ p = 29) (r80 : q_r σ 8 0 = 2) (r81 : q_r σ 8 1 = p) (hE : q_E σ) (h : (J ω m_Sc_advance d 0 0 0 0 0 [(0, .ref 2)] [] σ (q_kv (fun τ => J ω m_Pa_declaration (d + 1) mc ms 0 0 25 [(0, .ref 8), (1, .int (zI y0))] [] τ Q)))) : J ω m_Pa_declaration (d + 1) mc ms 0 0 17 [(0, .ref 8)] [.int (zI y0)] σ Q := by
  refine j_istore_n (L' := [(1, .int (zI y0)), (0, .ref 8)]) d_Pa_declaration_17 (by decide) rfl ?_
  refine j_aload_n d_Pa_declaration_18 1 rfl ?_
  refine j_getR 2 f_Pa_33 d_Pa_declaration_19 (tg_8 hE) (q_okE hE (by decide)) (r80) (by decide) ?_
  refine j_callV m_Sc_advance [] [] d 0 0 cV_Pa_78 d_Pa_declaration_22 rfl rfl (tg_2 hE) (q_okE hE (by decide)) (Nat.le_of_ble_eq_true rfl) (Nat.le_refl _) (Nat.le_of_ble_eq_true rfl) (Nat.zero_le _) (Nat.zero_le _) h (fun v τ h => ?_) (fun x τ h => ?_)
  · obtain ⟨e1, h⟩ := h; cases e1; exact j_sel [1, 0] rfl h
  · obtain ⟨e1, h⟩ := h; cases e1
set_option maxHeartbeats 2000000 in
theorem b_Pa_declaration_25 {ω : q_W} {σ : q_H} {Q : q_R → q_H → Prop} {d mc ms : Nat} {x1 : Int} {p : Nat} (hp : p = 16 ∨ p = 29) (r80 : q_r σ 8 0 = 2) (r81 : q_r σ 8 1 = p) (hE : q_E σ) (h : (0 ≤ (z σ 2 8) ∧ (z σ 2 8) < 4097) ∧ (J ω m_Pa_accept d 0 0 0 0 0 [(0, .ref 8), (1, .int (zI 30))] [] σ (q_ki (fun v τ => J ω m_Pa_declaration (d + 1) mc ms 0 0 48 [(0, .ref 8), (1, .int (zI x1)), (2, .long (q_l σ 6 (z σ 2 8).toNat)), (4, .int (zI (z σ 5 (z σ 2 8).toNat)))] [.int (zI v)] τ Q)))) : J ω m_Pa_declaration (d + 1) mc ms 0 0 25 [(0, .ref 8), (1, .int (zI x1))] [] σ Q := by
  refine j_aload_n d_Pa_declaration_25 0 rfl ?_
  refine j_getR 2 f_Pa_33 d_Pa_declaration_26 (tg_8 hE) (q_okE hE (by decide)) (r80) (by decide) ?_
  obtain ⟨c3, h⟩ := h
  refine j_callV m_Sc_name [] [] 0 0 0 cV_Pa_91 d_Pa_declaration_29 rfl rfl (tg_2 hE) (q_okE hE (by decide)) (Nat.le_of_ble_eq_true rfl) (Nat.succ_le_succ (Nat.zero_le _)) (Nat.le_of_ble_eq_true rfl) (Nat.zero_le _) (Nat.zero_le _) (c_Sc_name hE c3 (q_z _ _ _) (rfl)) (fun v τ h => ?_) (fun x τ h => absurd h.1 (by simp))
  obtain ⟨e1, e2⟩ := h; cases e1; rw [e2]
  refine j_lstore_n (L' := [(2, .long (q_l σ 6 (z σ 2 8).toNat)), (0, .ref 8), (1, .int (zI x1))]) d_Pa_declaration_32 (by decide) rfl ?_
  refine j_aload_n d_Pa_declaration_33 1 rfl ?_
  refine j_getR 2 f_Pa_33 d_Pa_declaration_34 (tg_8 hE) (q_okE hE (by decide)) (r80) (by decide) ?_
  refine j_callV m_Sc_start [] [] 0 0 0 cV_Pa_56 d_Pa_declaration_37 rfl rfl (tg_2 hE) (q_okE hE (by decide)) (Nat.le_of_ble_eq_true rfl) (Nat.succ_le_succ (Nat.zero_le _)) (Nat.le_of_ble_eq_true rfl) (Nat.zero_le _) (Nat.zero_le _) (c_Sc_start hE c3 (q_z _ _ _) (q_z _ _ _)) (fun v τ h => ?_) (fun x τ h => absurd h.1 (by simp))
  obtain ⟨e1, e2⟩ := h; cases e1; rw [e2]
  refine j_istore (L' := [(4, .int (zI (z σ 5 (z σ 2 8).toNat))), (2, .long (q_l σ 6 (z σ 2 8).toNat)), (0, .ref 8), (1, .int (zI x1))]) d_Pa_declaration_40 (by decide) rfl ?_
  refine j_aload_n d_Pa_declaration_42 2 rfl ?_
  refine j_bipush (v := zI 30) d_Pa_declaration_43 (by decide) ?_
  refine j_callV m_Pa_accept [.int (zI 30)] [] d 0 0 cV_Pa_95 d_Pa_declaration_45 rfl rfl (tg_8 hE) (q_okE hE (by decide)) (Nat.le_of_ble_eq_true rfl) (Nat.le_refl _) (Nat.le_of_ble_eq_true rfl) (Nat.zero_le _) (Nat.zero_le _) h (fun v τ h => ?_) (fun x τ h => ?_)
  · obtain ⟨v, hv, e1, h⟩ := h; cases e1; exact j_sel [2, 3, 1, 0] rfl h
  · obtain ⟨v, hv, e1, h⟩ := h; cases e1
set_option maxHeartbeats 2000000 in
theorem b_Pa_declaration_48 {ω : q_W} {σ : q_H} {Q : q_R → q_H → Prop} {d mc ms : Nat} {x1 : Int} {x2 : Int64} {x4 : Int} {y0 : Int} {p : Nat} (hp : p = 16 ∨ p = 29) (r80 : q_r σ 8 0 = 2) (r81 : q_r σ 8 1 = p) (hE : q_E σ) (h : inR y0 ∧ q_imp (y0 = 0) ((Q (.inl (some (.int (zI 0)))) σ)) ∧ q_imp (y0 ≠ 0) ((J ω m_Pa_accept d 0 0 0 0 0 [(0, .ref 8), (1, .int (zI 33))] [] σ (q_ki (fun v τ => J ω m_Pa_declaration (d + 1) mc ms 0 0 57 [(0, .ref 8), (1, .int (zI x1)), (2, .long x2), (4, .int (zI x4))] [.int (zI v)] τ Q))))) : J ω m_Pa_declaration (d + 1) mc ms 0 0 48 [(0, .ref 8), (1, .int (zI x1)), (2, .long x2), (4, .int (zI x4))] [.int (zI y0)] σ Q := by
  obtain ⟨r4, h⟩ := h
  obtain ⟨h1, h2⟩ := h
  refine zj_if_eq 60 d_Pa_declaration_48 (by decide) r4 (fun k5 => ?_) (fun k5 => ?_)
  · have h := h1 k5
    refine j_iconst (v := zI 0) d_Pa_declaration_60 (by decide) ?_
    exact zj_zret d_Pa_declaration_61 rfl (by decide) (Nat.zero_le _) (Nat.zero_le _) h
  · have h := h2 k5
    refine j_aload_n d_Pa_declaration_51 0 rfl ?_
    refine j_bipush (v := zI 33) d_Pa_declaration_52 (by decide) ?_
    refine j_callV m_Pa_accept [.int (zI 33)] [] d 0 0 cV_Pa_95 d_Pa_declaration_54 rfl rfl (tg_8 hE) (q_okE hE (by decide)) (Nat.le_of_ble_eq_true rfl) (Nat.le_refl _) (Nat.le_of_ble_eq_true rfl) (Nat.zero_le _) (Nat.zero_le _) h (fun v τ h => ?_) (fun x τ h => ?_)
    · obtain ⟨v, hv, e1, h⟩ := h; cases e1; exact j_sel [0, 1, 2, 3] rfl h
    · obtain ⟨v, hv, e1, h⟩ := h; cases e1
set_option maxHeartbeats 2000000 in
theorem b_Pa_declaration_57 {ω : q_W} {σ : q_H} {Q : q_R → q_H → Prop} {d mc ms : Nat} {x1 : Int} {x2 : Int64} {x4 : Int} {y0 : Int} {p : Nat} (hp : p = 16 ∨ p = 29) (r80 : q_r σ 8 0 = 2) (r81 : q_r σ 8 1 = p) (hE : q_E σ) (h : inR y0 ∧ q_imp (y0 ≠ 0) ((0 ≤ (z σ 2 8) ∧ (z σ 2 8) < 4097) ∧ (J ω m_Pa_accept d 0 0 0 0 0 [(0, .ref 8), (1, .int (zI 23))] [] σ (q_ki (fun v τ => J ω m_Pa_declaration (d + 1) mc ms 0 0 86 [(0, .ref 8), (1, .int (zI x1)), (2, .long x2), (4, .int (zI x4)), (5, .int (zI (zL (q_l σ 6 (z σ 2 8).toNat)))), (6, .int (zI (z σ 5 (z σ 2 8).toNat)))] [.int (zI v)] τ Q)))) ∧ q_imp (y0 = 0) ((Q (.inl (some (.int (zI 0)))) σ))) : J ω m_Pa_declaration (d + 1) mc ms 0 0 57 [(0, .ref 8), (1, .int (zI x1)), (2, .long x2), (4, .int (zI x4))] [.int (zI y0)] σ Q := by
  obtain ⟨r6, h⟩ := h
  obtain ⟨h1, h2⟩ := h
  refine zj_if_ne 62 d_Pa_declaration_57 (by decide) r6 (fun k7 => ?_) (fun k7 => ?_)
  · have h := h1 k7
    refine j_aload_n d_Pa_declaration_62 0 rfl ?_
    refine j_getR 2 f_Pa_33 d_Pa_declaration_63 (tg_8 hE) (q_okE hE (by decide)) (r80) (by decide) ?_
    obtain ⟨c8, h⟩ := h
    refine j_callV m_Sc_number [] [] 0 0 0 cV_Pa_99 d_Pa_declaration_66 rfl rfl (tg_2 hE) (q_okE hE (by decide)) (Nat.le_of_ble_eq_true rfl) (Nat.succ_le_succ (Nat.zero_le _)) (Nat.le_of_ble_eq_true rfl) (Nat.zero_le _) (Nat.zero_le _) (c_Sc_number hE c8 (q_z _ _ _) (rfl)) (fun v τ h => ?_) (fun x τ h => absurd h.1 (by simp))
    obtain ⟨e1, e2⟩ := h; cases e1; rw [e2]
    refine j_istore (L' := [(5, .int (zI (zL (q_l σ 6 (z σ 2 8).toNat)))), (0, .ref 8), (1, .int (zI x1)), (2, .long x2), (4, .int (zI x4))]) d_Pa_declaration_69 (by decide) rfl ?_
    refine j_aload_n d_Pa_declaration_71 1 rfl ?_
    refine j_getR 2 f_Pa_33 d_Pa_declaration_72 (tg_8 hE) (q_okE hE (by decide)) (r80) (by decide) ?_
    refine j_callV m_Sc_start [] [] 0 0 0 cV_Pa_56 d_Pa_declaration_75 rfl rfl (tg_2 hE) (q_okE hE (by decide)) (Nat.le_of_ble_eq_true rfl) (Nat.succ_le_succ (Nat.zero_le _)) (Nat.le_of_ble_eq_true rfl) (Nat.zero_le _) (Nat.zero_le _) (c_Sc_start hE c8 (q_z _ _ _) (q_z _ _ _)) (fun v τ h => ?_) (fun x τ h => absurd h.1 (by simp))
    obtain ⟨e1, e2⟩ := h; cases e1; rw [e2]
    refine j_istore (L' := [(6, .int (zI (z σ 5 (z σ 2 8).toNat))), (5, .int (zI (zL (q_l σ 6 (z σ 2 8).toNat)))), (0, .ref 8), (1, .int (zI x1)), (2, .long x2), (4, .int (zI x4))]) d_Pa_declaration_78 (by decide) rfl ?_
    refine j_aload_n d_Pa_declaration_80 2 rfl ?_
    refine j_bipush (v := zI 23) d_Pa_declaration_81 (by decide) ?_
    refine j_callV m_Pa_accept [.int (zI 23)] [] d 0 0 cV_Pa_95 d_Pa_declaration_83 rfl rfl (tg_8 hE) (q_okE hE (by decide)) (Nat.le_of_ble_eq_true rfl) (Nat.le_refl _) (Nat.le_of_ble_eq_true rfl) (Nat.zero_le _) (Nat.zero_le _) h (fun v τ h => ?_) (fun x τ h => ?_)
    · obtain ⟨v, hv, e1, h⟩ := h; cases e1; exact j_sel [2, 3, 4, 5, 1, 0] rfl h
    · obtain ⟨v, hv, e1, h⟩ := h; cases e1
  · have h := h2 k7
    refine j_iconst (v := zI 0) d_Pa_declaration_60 (by decide) ?_
    exact zj_zret d_Pa_declaration_61 rfl (by decide) (Nat.zero_le _) (Nat.zero_le _) h
set_option maxHeartbeats 2000000 in
theorem b_Pa_declaration_86 {ω : q_W} {σ : q_H} {Q : q_R → q_H → Prop} {d mc ms : Nat} {x1 : Int} {x2 : Int64} {x4 : Int} {x5 : Int} {x6 : Int} {y0 : Int} {p : Nat} (hp : p = 16 ∨ p = 29) (r80 : q_r σ 8 0 = 2) (r81 : q_r σ 8 1 = p) (hE : q_E σ) (h : inR y0 ∧ q_imp (y0 = 0) ((Q (.inl (some (.int (zI 0)))) σ)) ∧ q_imp (y0 ≠ 0) ((J ω m_Pa_accept d 0 0 0 0 0 [(0, .ref 8), (1, .int (zI 32))] [] σ (q_ki (fun v τ => J ω m_Pa_declaration (d + 1) mc ms 0 0 95 [(0, .ref 8), (1, .int (zI x1)), (2, .long x2), (4, .int (zI x4)), (5, .int (zI x5)), (6, .int (zI x6))] [.int (zI v)] τ Q))))) : J ω m_Pa_declaration (d + 1) mc ms 0 0 86 [(0, .ref 8), (1, .int (zI x1)), (2, .long x2), (4, .int (zI x4)), (5, .int (zI x5)), (6, .int (zI x6))] [.int (zI y0)] σ Q := by
  obtain ⟨r9, h⟩ := h
  obtain ⟨h1, h2⟩ := h
  refine zj_if_eq 98 d_Pa_declaration_86 (by decide) r9 (fun k10 => ?_) (fun k10 => ?_)
  · have h := h1 k10
    refine j_iconst (v := zI 0) d_Pa_declaration_98 (by decide) ?_
    exact zj_zret d_Pa_declaration_99 rfl (by decide) (Nat.zero_le _) (Nat.zero_le _) h
  · have h := h2 k10
    refine j_aload_n d_Pa_declaration_89 0 rfl ?_
    refine j_bipush (v := zI 32) d_Pa_declaration_90 (by decide) ?_
    refine j_callV m_Pa_accept [.int (zI 32)] [] d 0 0 cV_Pa_95 d_Pa_declaration_92 rfl rfl (tg_8 hE) (q_okE hE (by decide)) (Nat.le_of_ble_eq_true rfl) (Nat.le_refl _) (Nat.le_of_ble_eq_true rfl) (Nat.zero_le _) (Nat.zero_le _) h (fun v τ h => ?_) (fun x τ h => ?_)
    · obtain ⟨v, hv, e1, h⟩ := h; cases e1; exact j_sel [0, 1, 2, 3, 4, 5] rfl h
    · obtain ⟨v, hv, e1, h⟩ := h; cases e1
set_option maxHeartbeats 2000000 in
theorem b_Pa_declaration_95 {ω : q_W} {σ : q_H} {Q : q_R → q_H → Prop} {d mc ms : Nat} {x1 : Int} {x2 : Int64} {x4 : Int} {x5 : Int} {x6 : Int} {y0 : Int} {p : Nat} (hp : p = 16 ∨ p = 29) (r80 : q_r σ 8 0 = 2) (r81 : q_r σ 8 1 = p) (hE : q_E σ) (h : inR y0 ∧ q_imp (y0 ≠ 0) ((J ω m_Pr_find d 0 0 0 0 0 [(0, .ref p), (1, .long x2)] [] σ (q_ki (fun v τ => J ω m_Pa_declaration (d + 1) mc ms 0 0 108 [(0, .ref 8), (1, .int (zI x1)), (2, .long x2), (4, .int (zI x4)), (5, .int (zI x5)), (6, .int (zI x6))] [.int (zI v)] τ Q)))) ∧ q_imp (y0 = 0) ((Q (.inl (some (.int (zI 0)))) σ))) : J ω m_Pa_declaration (d + 1) mc ms 0 0 95 [(0, .ref 8), (1, .int (zI x1)), (2, .long x2), (4, .int (zI x4)), (5, .int (zI x5)), (6, .int (zI x6))] [.int (zI y0)] σ Q := by
  obtain ⟨r11, h⟩ := h
  obtain ⟨h1, h2⟩ := h
  refine zj_if_ne 100 d_Pa_declaration_95 (by decide) r11 (fun k12 => ?_) (fun k12 => ?_)
  · have h := h1 k12
    refine j_aload_n d_Pa_declaration_100 0 rfl ?_
    refine j_getR p f_Pa_37 d_Pa_declaration_101 (tg_8 hE) (q_okE hE (by decide)) (r81) (by omega) ?_
    refine j_lload_n d_Pa_declaration_104 2 rfl ?_
    refine j_callV m_Pr_find [.long x2] [] d 0 0 cV_Pa_102 d_Pa_declaration_105 rfl rfl (tY_p_0 hE hp) (q_okE hE (by omega)) (Nat.le_of_ble_eq_true rfl) (Nat.le_refl _) (Nat.le_of_ble_eq_true rfl) (Nat.zero_le _) (Nat.zero_le _) h (fun v τ h => ?_) (fun x τ h => ?_)
    · obtain ⟨v, hv, e1, h⟩ := h; cases e1; exact j_sel [0, 1, 2, 3, 4, 5] rfl h
    · obtain ⟨v, hv, e1, h⟩ := h; cases e1
  · have h := h2 k12
    refine j_iconst (v := zI 0) d_Pa_declaration_98 (by decide) ?_
    exact zj_zret d_Pa_declaration_99 rfl (by decide) (Nat.zero_le _) (Nat.zero_le _) h
set_option maxHeartbeats 2000000 in
theorem b_Pa_declaration_108 {ω : q_W} {σ : q_H} {Q : q_R → q_H → Prop} {d mc ms : Nat} {x1 : Int} {x2 : Int64} {x4 : Int} {x5 : Int} {x6 : Int} {y0 : Int} {p : Nat} (hp : p = 16 ∨ p = 29) (r80 : q_r σ 8 0 = 2) (r81 : q_r σ 8 1 = p) (hE : q_E σ) (h : inR y0 ∧ q_imp (y0 = (-1)) (inR x5 ∧ q_imp (x5 < 1) ((J ω m_Pa_declaration (d + 1) mc ms 0 0 138 [(0, .ref 8), (6, .int (zI x6))] [] σ Q)) ∧ q_imp (x5 ≥ 1) (q_imp (x5 ≤ 8) (inR x1 ∧ q_imp (x1 = 0) ((J ω m_Pr_addVariable d 0 0 0 0 0 [(0, .ref p), (1, .long x2), (3, .int (zI x5))] [] σ (q_ki (fun v τ => J ω m_Pa_declaration (d + 1) mc ms 0 0 181 [(0, .ref 8), (4, .int (zI x4))] [.int (zI v)] τ Q)))) ∧ q_imp (x1 ≠ 0) ((J ω m_Pr_addInput d 0 0 0 0 0 [(0, .ref p), (1, .long x2), (3, .int (zI x5))] [] σ (q_ki (fun v τ => J ω m_Pa_declaration (d + 1) mc ms 0 0 165 [(0, .ref 8), (4, .int (zI x4))] [.int (zI v)] τ Q))))) ∧ q_imp (x5 > 8) ((J ω m_Pa_declaration (d + 1) mc ms 0 0 138 [(0, .ref 8), (6, .int (zI x6))] [] σ Q)))) ∧ q_imp (y0 ≠ (-1)) ((J ω m_Pr_note d 0 0 0 0 0 [(0, .ref p), (1, .int (zI 3)), (2, .int (zI x4))] [] σ (q_kv (fun τ => J ω m_Pa_declaration (d + 1) mc ms 0 0 122 [] [] τ Q))))) : J ω m_Pa_declaration (d + 1) mc ms 0 0 108 [(0, .ref 8), (1, .int (zI x1)), (2, .long x2), (4, .int (zI x4)), (5, .int (zI x5)), (6, .int (zI x6))] [.int (zI y0)] σ Q := by
  refine j_iconst (v := zI (-1)) d_Pa_declaration_108 (by decide) ?_
  obtain ⟨r13, h⟩ := h
  obtain ⟨h1, h2⟩ := h
  refine zj_icmp_eq 125 d_Pa_declaration_109 (by decide) r13 ⟨by decide, by decide⟩ (fun k14 => ?_) (fun k14 => ?_)
  · have h := h1 k14
    refine j_iload d_Pa_declaration_125 4 rfl ?_
    refine j_iconst (v := zI 1) d_Pa_declaration_127 (by decide) ?_
    obtain ⟨r15, h⟩ := h
    obtain ⟨h1, h2⟩ := h
    refine zj_icmp_lt 138 d_Pa_declaration_128 (by decide) r15 ⟨by decide, by decide⟩ (fun k16 => ?_) (fun k16 => ?_)
    · have h := h1 k16
      exact j_sel [0, 5] rfl h
    · have h := h2 k16
      refine j_iload d_Pa_declaration_131 4 rfl ?_
      refine j_bipush (v := zI 8) d_Pa_declaration_133 (by decide) ?_
      obtain ⟨h1, h2⟩ := h
      refine zj_icmp_le 151 d_Pa_declaration_135 (by decide) r15 ⟨by decide, by decide⟩ (fun k17 => ?_) (fun k17 => ?_)
      · have h := h1 k17
        refine j_iload_n d_Pa_declaration_151 1 rfl ?_
        obtain ⟨r18, h⟩ := h
        obtain ⟨h1, h2⟩ := h
        refine zj_if_eq 171 d_Pa_declaration_152 (by decide) r18 (fun k19 => ?_) (fun k19 => ?_)
        · have h := h1 k19
          refine j_aload_n d_Pa_declaration_171 0 rfl ?_
          refine j_getR p f_Pa_37 d_Pa_declaration_172 (tg_8 hE) (q_okE hE (by decide)) (r81) (by omega) ?_
          refine j_lload_n d_Pa_declaration_175 2 rfl ?_
          refine j_iload d_Pa_declaration_176 4 rfl ?_
          refine j_callV m_Pr_addVariable [.long x2, .int (zI x5)] [] d 0 0 cV_Pa_110 d_Pa_declaration_178 rfl rfl (tY_p_0 hE hp) (q_okE hE (by omega)) (Nat.le_of_ble_eq_true rfl) (Nat.le_refl _) (Nat.le_of_ble_eq_true rfl) (Nat.zero_le _) (Nat.zero_le _) h (fun v τ h => ?_) (fun x τ h => ?_)
          · obtain ⟨v, hv, e1, h⟩ := h; cases e1; exact j_sel [0, 3] rfl h
          · obtain ⟨v, hv, e1, h⟩ := h; cases e1
        · have h := h2 k19
          refine j_aload_n d_Pa_declaration_155 0 rfl ?_
          refine j_getR p f_Pa_37 d_Pa_declaration_156 (tg_8 hE) (q_okE hE (by decide)) (r81) (by omega) ?_
          refine j_lload_n d_Pa_declaration_159 2 rfl ?_
          refine j_iload d_Pa_declaration_160 4 rfl ?_
          refine j_callV m_Pr_addInput [.long x2, .int (zI x5)] [] d 0 0 cV_Pa_106 d_Pa_declaration_162 rfl rfl (tY_p_0 hE hp) (q_okE hE (by omega)) (Nat.le_of_ble_eq_true rfl) (Nat.le_refl _) (Nat.le_of_ble_eq_true rfl) (Nat.zero_le _) (Nat.zero_le _) h (fun v τ h => ?_) (fun x τ h => ?_)
          · obtain ⟨v, hv, e1, h⟩ := h; cases e1; exact j_sel [0, 3] rfl h
          · obtain ⟨v, hv, e1, h⟩ := h; cases e1
      · have h := h2 k17
        exact j_sel [0, 5] rfl h
  · have h := h2 k14
    refine j_aload_n d_Pa_declaration_112 0 rfl ?_
    refine j_getR p f_Pa_37 d_Pa_declaration_113 (tg_8 hE) (q_okE hE (by decide)) (r81) (by omega) ?_
    refine j_iconst (v := zI 3) d_Pa_declaration_116 (by decide) ?_
    refine j_iload d_Pa_declaration_117 3 rfl ?_
    refine j_callV m_Pr_note [.int (zI 3), .int (zI x4)] [] d 0 0 cV_Pa_71 d_Pa_declaration_119 rfl rfl (tY_p_0 hE hp) (q_okE hE (by omega)) (Nat.le_of_ble_eq_true rfl) (Nat.le_refl _) (Nat.le_of_ble_eq_true rfl) (Nat.zero_le _) (Nat.zero_le _) h (fun v τ h => ?_) (fun x τ h => ?_)
    · obtain ⟨e1, h⟩ := h; cases e1; exact j_sel [] rfl h
    · obtain ⟨e1, h⟩ := h; cases e1
set_option maxHeartbeats 2000000 in
theorem b_Pa_declaration_138 {ω : q_W} {σ : q_H} {Q : q_R → q_H → Prop} {d mc ms : Nat} {x6 : Int} {p : Nat} (hp : p = 16 ∨ p = 29) (r80 : q_r σ 8 0 = 2) (r81 : q_r σ 8 1 = p) (hE : q_E σ) (h : (J ω m_Pr_note d 0 0 0 0 0 [(0, .ref p), (1, .int (zI 5)), (2, .int (zI x6))] [] σ (q_kv (fun τ => J ω m_Pa_declaration (d + 1) mc ms 0 0 148 [] [] τ Q)))) : J ω m_Pa_declaration (d + 1) mc ms 0 0 138 [(0, .ref 8), (6, .int (zI x6))] [] σ Q := by
  refine j_aload_n d_Pa_declaration_138 0 rfl ?_
  refine j_getR p f_Pa_37 d_Pa_declaration_139 (tg_8 hE) (q_okE hE (by decide)) (r81) (by omega) ?_
  refine j_iconst (v := zI 5) d_Pa_declaration_142 (by decide) ?_
  refine j_iload d_Pa_declaration_143 1 rfl ?_
  refine j_callV m_Pr_note [.int (zI 5), .int (zI x6)] [] d 0 0 cV_Pa_71 d_Pa_declaration_145 rfl rfl (tY_p_0 hE hp) (q_okE hE (by omega)) (Nat.le_of_ble_eq_true rfl) (Nat.le_refl _) (Nat.le_of_ble_eq_true rfl) (Nat.zero_le _) (Nat.zero_le _) h (fun v τ h => ?_) (fun x τ h => ?_)
  · obtain ⟨e1, h⟩ := h; cases e1; exact j_sel [] rfl h
  · obtain ⟨e1, h⟩ := h; cases e1
set_option maxHeartbeats 2000000 in
theorem b_Pa_declaration_181 {ω : q_W} {σ : q_H} {Q : q_R → q_H → Prop} {d mc ms : Nat} {x4 : Int} {y0 : Int} {p : Nat} (hp : p = 16 ∨ p = 29) (r80 : q_r σ 8 0 = 2) (r81 : q_r σ 8 1 = p) (hE : q_E σ) (h : inR y0 ∧ q_imp (y0 ≠ 0) ((Q (.inl (some (.int (zI 1)))) σ)) ∧ q_imp (y0 = 0) ((J ω m_Pr_note d 0 0 0 0 0 [(0, .ref p), (1, .int (zI 6)), (2, .int (zI x4))] [] σ (q_kv (fun τ => J ω m_Pa_declaration (d + 1) mc ms 0 0 195 [] [] τ Q))))) : J ω m_Pa_declaration (d + 1) mc ms 0 0 181 [(0, .ref 8), (4, .int (zI x4))] [.int (zI y0)] σ Q := by
  obtain ⟨r20, h⟩ := h
  obtain ⟨h1, h2⟩ := h
  refine zj_if_ne 195 d_Pa_declaration_181 (by decide) r20 (fun k21 => ?_) (fun k21 => ?_)
  · have h := h1 k21
    refine j_iconst (v := zI 1) d_Pa_declaration_195 (by decide) ?_
    exact zj_zret d_Pa_declaration_196 rfl (by decide) (Nat.zero_le _) (Nat.zero_le _) h
  · have h := h2 k21
    refine j_aload_n d_Pa_declaration_184 0 rfl ?_
    refine j_getR p f_Pa_37 d_Pa_declaration_185 (tg_8 hE) (q_okE hE (by decide)) (r81) (by omega) ?_
    refine j_bipush (v := zI 6) d_Pa_declaration_188 (by decide) ?_
    refine j_iload d_Pa_declaration_190 1 rfl ?_
    refine j_callV m_Pr_note [.int (zI 6), .int (zI x4)] [] d 0 0 cV_Pa_71 d_Pa_declaration_192 rfl rfl (tY_p_0 hE hp) (q_okE hE (by omega)) (Nat.le_of_ble_eq_true rfl) (Nat.le_refl _) (Nat.le_of_ble_eq_true rfl) (Nat.zero_le _) (Nat.zero_le _) h (fun v τ h => ?_) (fun x τ h => ?_)
    · obtain ⟨e1, h⟩ := h; cases e1; exact j_sel [] rfl h
    · obtain ⟨e1, h⟩ := h; cases e1
set_option maxHeartbeats 2000000 in
theorem b_Pa_declaration_165 {ω : q_W} {σ : q_H} {Q : q_R → q_H → Prop} {d mc ms : Nat} {x4 : Int} {y0 : Int} {p : Nat} (hp : p = 16 ∨ p = 29) (r80 : q_r σ 8 0 = 2) (r81 : q_r σ 8 1 = p) (hE : q_E σ) (h : inR y0 ∧ q_imp (y0 = 0) ((J ω m_Pr_note d 0 0 0 0 0 [(0, .ref p), (1, .int (zI 6)), (2, .int (zI x4))] [] σ (q_kv (fun τ => J ω m_Pa_declaration (d + 1) mc ms 0 0 195 [] [] τ Q)))) ∧ q_imp (y0 ≠ 0) ((Q (.inl (some (.int (zI 1)))) σ))) : J ω m_Pa_declaration (d + 1) mc ms 0 0 165 [(0, .ref 8), (4, .int (zI x4))] [.int (zI y0)] σ Q := by
  obtain ⟨r22, h⟩ := h
  obtain ⟨h1, h2⟩ := h
  refine zj_if_eq 184 d_Pa_declaration_165 (by decide) r22 (fun k23 => ?_) (fun k23 => ?_)
  · have h := h1 k23
    refine j_aload_n d_Pa_declaration_184 0 rfl ?_
    refine j_getR p f_Pa_37 d_Pa_declaration_185 (tg_8 hE) (q_okE hE (by decide)) (r81) (by omega) ?_
    refine j_bipush (v := zI 6) d_Pa_declaration_188 (by decide) ?_
    refine j_iload d_Pa_declaration_190 1 rfl ?_
    refine j_callV m_Pr_note [.int (zI 6), .int (zI x4)] [] d 0 0 cV_Pa_71 d_Pa_declaration_192 rfl rfl (tY_p_0 hE hp) (q_okE hE (by omega)) (Nat.le_of_ble_eq_true rfl) (Nat.le_refl _) (Nat.le_of_ble_eq_true rfl) (Nat.zero_le _) (Nat.zero_le _) h (fun v τ h => ?_) (fun x τ h => ?_)
    · obtain ⟨e1, h⟩ := h; cases e1; exact j_sel [] rfl h
    · obtain ⟨e1, h⟩ := h; cases e1
  · have h := h2 k23
    refine j_goto 195 d_Pa_declaration_168 (by decide) ?_
    refine j_iconst (v := zI 1) d_Pa_declaration_195 (by decide) ?_
    exact zj_zret d_Pa_declaration_196 rfl (by decide) (Nat.zero_le _) (Nat.zero_le _) h
set_option maxHeartbeats 2000000 in
theorem b_Pa_declaration_122 {ω : q_W} {σ : q_H} {Q : q_R → q_H → Prop} {d mc ms : Nat}  {p : Nat} (hp : p = 16 ∨ p = 29) (r80 : q_r σ 8 0 = 2) (r81 : q_r σ 8 1 = p) (hE : q_E σ) (h : (Q (.inl (some (.int (zI 1)))) σ)) : J ω m_Pa_declaration (d + 1) mc ms 0 0 122 [] [] σ Q := by
  refine j_goto 195 d_Pa_declaration_122 (by decide) ?_
  refine j_iconst (v := zI 1) d_Pa_declaration_195 (by decide) ?_
  exact zj_zret d_Pa_declaration_196 rfl (by decide) (Nat.zero_le _) (Nat.zero_le _) h
set_option maxHeartbeats 2000000 in
theorem b_Pa_declaration_148 {ω : q_W} {σ : q_H} {Q : q_R → q_H → Prop} {d mc ms : Nat}  {p : Nat} (hp : p = 16 ∨ p = 29) (r80 : q_r σ 8 0 = 2) (r81 : q_r σ 8 1 = p) (hE : q_E σ) (h : (Q (.inl (some (.int (zI 1)))) σ)) : J ω m_Pa_declaration (d + 1) mc ms 0 0 148 [] [] σ Q := by
  refine j_goto 195 d_Pa_declaration_148 (by decide) ?_
  refine j_iconst (v := zI 1) d_Pa_declaration_195 (by decide) ?_
  exact zj_zret d_Pa_declaration_196 rfl (by decide) (Nat.zero_le _) (Nat.zero_le _) h
set_option maxHeartbeats 2000000 in
theorem b_Pa_declaration_195 {ω : q_W} {σ : q_H} {Q : q_R → q_H → Prop} {d mc ms : Nat}  {p : Nat} (hp : p = 16 ∨ p = 29) (r80 : q_r σ 8 0 = 2) (r81 : q_r σ 8 1 = p) (hE : q_E σ) (h : (Q (.inl (some (.int (zI 1)))) σ)) : J ω m_Pa_declaration (d + 1) mc ms 0 0 195 [] [] σ Q := by
  refine j_iconst (v := zI 1) d_Pa_declaration_195 (by decide) ?_
  exact zj_zret d_Pa_declaration_196 rfl (by decide) (Nat.zero_le _) (Nat.zero_le _) h
set_option maxHeartbeats 2000000 in
theorem b_Pa_accept_0 {ω : q_W} {σ : q_H} {Q : q_R → q_H → Prop} {d mc ms : Nat} {x1 : Int} {p : Nat} (hp : p = 16 ∨ p = 29) (r80 : q_r σ 8 0 = 2) (r81 : q_r σ 8 1 = p) (hE : q_E σ) (h : (0 ≤ (z σ 2 8) ∧ (z σ 2 8) < 4097) ∧ inR x1 ∧ q_imp ((z σ 4 (z σ 2 8).toNat) = x1) ((J ω m_Sc_advance d 0 0 0 0 0 [(0, .ref 2)] [] σ (q_kv (fun τ => J ω m_Pa_accept (d + 1) mc ms 0 0 20 [] [] τ Q)))) ∧ q_imp ((z σ 4 (z σ 2 8).toNat) ≠ x1) ((Q (.inl (some (.int (zI 0)))) σ))) : J ω m_Pa_accept (d + 1) mc ms 0 0 0 [(0, .ref 8), (1, .int (zI x1))] [] σ Q := by
  refine j_aload_n d_Pa_accept_0 0 rfl ?_
  refine j_getR 2 f_Pa_33 d_Pa_accept_1 (tg_8 hE) (q_okE hE (by decide)) (r80) (by decide) ?_
  obtain ⟨c1, h⟩ := h
  refine j_callV m_Sc_kind [] [] 0 0 0 cV_Pa_75 d_Pa_accept_4 rfl rfl (tg_2 hE) (q_okE hE (by decide)) (Nat.le_of_ble_eq_true rfl) (Nat.succ_le_succ (Nat.zero_le _)) (Nat.le_of_ble_eq_true rfl) (Nat.zero_le _) (Nat.zero_le _) (c_Sc_kind hE c1 (q_z _ _ _) (q_z _ _ _)) (fun v τ h => ?_) (fun x τ h => absurd h.1 (by simp))
  obtain ⟨e1, e2⟩ := h; cases e1; rw [e2]
  refine j_iload_n d_Pa_accept_7 1 rfl ?_
  obtain ⟨r2, h⟩ := h
  obtain ⟨h1, h2⟩ := h
  refine zj_icmp_eq 13 d_Pa_accept_8 (by decide) (z_R _ _ _) r2 (fun k3 => ?_) (fun k3 => ?_)
  · have h := h1 k3
    refine j_aload_n d_Pa_accept_13 0 rfl ?_
    refine j_getR 2 f_Pa_33 d_Pa_accept_14 (tg_8 hE) (q_okE hE (by decide)) (r80) (by decide) ?_
    refine j_callV m_Sc_advance [] [] d 0 0 cV_Pa_78 d_Pa_accept_17 rfl rfl (tg_2 hE) (q_okE hE (by decide)) (Nat.le_of_ble_eq_true rfl) (Nat.le_refl _) (Nat.le_of_ble_eq_true rfl) (Nat.zero_le _) (Nat.zero_le _) h (fun v τ h => ?_) (fun x τ h => ?_)
    · obtain ⟨e1, h⟩ := h; cases e1; exact j_sel [] rfl h
    · obtain ⟨e1, h⟩ := h; cases e1
  · have h := h2 k3
    refine j_iconst (v := zI 0) d_Pa_accept_11 (by decide) ?_
    exact zj_zret d_Pa_accept_12 rfl (by decide) (Nat.zero_le _) (Nat.zero_le _) h
set_option maxHeartbeats 2000000 in
theorem b_Pa_accept_20 {ω : q_W} {σ : q_H} {Q : q_R → q_H → Prop} {d mc ms : Nat}  {p : Nat} (hp : p = 16 ∨ p = 29) (r80 : q_r σ 8 0 = 2) (r81 : q_r σ 8 1 = p) (hE : q_E σ) (h : (Q (.inl (some (.int (zI 1)))) σ)) : J ω m_Pa_accept (d + 1) mc ms 0 0 20 [] [] σ Q := by
  refine j_iconst (v := zI 1) d_Pa_accept_20 (by decide) ?_
  exact zj_zret d_Pa_accept_21 rfl (by decide) (Nat.zero_le _) (Nat.zero_le _) h
set_option maxHeartbeats 2000000 in
theorem b_Pa_statements_0 {ω : q_W} {σ : q_H} {Q : q_R → q_H → Prop} {d mc ms : Nat}  {p : Nat} (hp : p = 16 ∨ p = 29) (r80 : q_r σ 8 0 = 2) (r81 : q_r σ 8 1 = p) (hE : q_E σ) (h : (J ω m_Pa_statements (d + 1) mc ms 0 0 4 [(0, .ref 8), (1, .int (zI 1)), (2, .int (zI 0))] [] σ Q)) : J ω m_Pa_statements (d + 1) mc ms 0 0 0 [(0, .ref 8)] [] σ Q := by
  refine j_iconst (v := zI 1) d_Pa_statements_0 (by decide) ?_
  refine j_istore_n (L' := [(1, .int (zI 1)), (0, .ref 8)]) d_Pa_statements_1 (by decide) rfl ?_
  refine j_iconst (v := zI 0) d_Pa_statements_2 (by decide) ?_
  refine j_istore_n (L' := [(2, .int (zI 0)), (1, .int (zI 1)), (0, .ref 8)]) d_Pa_statements_3 (by decide) rfl ?_
  exact j_sel [2, 1, 0] rfl h
set_option maxHeartbeats 2000000 in
theorem b_Pa_statements_4 {ω : q_W} {σ : q_H} {Q : q_R → q_H → Prop} {d mc ms : Nat} {x1 : Int} {x2 : Int} {p : Nat} (hp : p = 16 ∨ p = 29) (r80 : q_r σ 8 0 = 2) (r81 : q_r σ 8 1 = p) (hE : q_E σ) (h : inR x2 ∧ q_imp (x2 > 4096) ((Q (.inl (some (.int (zI 0)))) σ)) ∧ q_imp (x2 ≤ 4096) (inR x1 ∧ q_imp (x1 = 0) ((Q (.inl (some (.int (zI 0)))) σ)) ∧ q_imp (x1 ≠ 0) (q_imp ((z σ 8 7) ≤ 30) ((J ω m_Pa_statements (d + 1) mc ms 0 0 38 [(0, .ref 8), (1, .int (zI x1)), (2, .int (zI x2))] [] σ Q)) ∧ q_imp ((z σ 8 7) > 30) ((0 ≤ (z σ 2 8) ∧ (z σ 2 8) < 4097) ∧ q_imp ((z σ 4 (z σ 2 8).toNat) = 38) ((J ω m_Pa_statements (d + 1) mc ms 0 0 38 [(0, .ref 8), (1, .int (zI x1)), (2, .int (zI x2))] [] σ Q)) ∧ q_imp ((z σ 4 (z σ 2 8).toNat) ≠ 38) ((Q (.inl (some (.int (zI 0)))) σ)))))) : J ω m_Pa_statements (d + 1) mc ms 0 0 4 [(0, .ref 8), (1, .int (zI x1)), (2, .int (zI x2))] [] σ Q := by
  refine j_iload_n d_Pa_statements_4 2 rfl ?_
  refine j_sipush (v := zI 4096) d_Pa_statements_5 (by decide) ?_
  obtain ⟨r1, h⟩ := h
  obtain ⟨h1, h2⟩ := h
  refine zj_icmp_gt 197 d_Pa_statements_8 (by decide) r1 ⟨by decide, by decide⟩ (fun k2 => ?_) (fun k2 => ?_)
  · have h := h1 k2
    refine j_iconst (v := zI 0) d_Pa_statements_197 (by decide) ?_
    exact zj_zret d_Pa_statements_198 rfl (by decide) (Nat.zero_le _) (Nat.zero_le _) h
  · have h := h2 k2
    refine j_iload_n d_Pa_statements_11 1 rfl ?_
    obtain ⟨r3, h⟩ := h
    obtain ⟨h1, h2⟩ := h
    refine zj_if_eq 197 d_Pa_statements_12 (by decide) r3 (fun k4 => ?_) (fun k4 => ?_)
    · have h := h1 k4
      refine j_iconst (v := zI 0) d_Pa_statements_197 (by decide) ?_
      exact zj_zret d_Pa_statements_198 rfl (by decide) (Nat.zero_le _) (Nat.zero_le _) h
    · have h := h2 k4
      refine j_aload_n d_Pa_statements_15 0 rfl ?_
      refine zj_getI (z σ 8 7) f_Pa_46 d_Pa_statements_16 (tg_8 hE) (q_okE hE (by decide)) (q_z _ _ _) ?_
      refine j_bipush (v := zI 30) d_Pa_statements_19 (by decide) ?_
      obtain ⟨h1, h2⟩ := h
      refine zj_icmp_le 38 d_Pa_statements_21 (by decide) (z_R _ _ _) ⟨by decide, by decide⟩ (fun k5 => ?_) (fun k5 => ?_)
      · have h := h1 k5
        exact j_sel [0, 1, 2] rfl h
      · have h := h2 k5
        refine j_aload_n d_Pa_statements_24 0 rfl ?_
        refine j_getR 2 f_Pa_33 d_Pa_statements_25 (tg_8 hE) (q_okE hE (by decide)) (r80) (by decide) ?_
        obtain ⟨c6, h⟩ := h
        refine j_callV m_Sc_kind [] [] 0 0 0 cV_Pa_75 d_Pa_statements_28 rfl rfl (tg_2 hE) (q_okE hE (by decide)) (Nat.le_of_ble_eq_true rfl) (Nat.succ_le_succ (Nat.zero_le _)) (Nat.le_of_ble_eq_true rfl) (Nat.zero_le _) (Nat.zero_le _) (c_Sc_kind hE c6 (q_z _ _ _) (q_z _ _ _)) (fun v τ h => ?_) (fun x τ h => absurd h.1 (by simp))
        obtain ⟨e1, e2⟩ := h; cases e1; rw [e2]
        refine j_bipush (v := zI 38) d_Pa_statements_31 (by decide) ?_
        obtain ⟨h1, h2⟩ := h
        refine zj_icmp_eq 38 d_Pa_statements_33 (by decide) (z_R _ _ _) ⟨by decide, by decide⟩ (fun k7 => ?_) (fun k7 => ?_)
        · have h := h1 k7
          exact j_sel [0, 1, 2] rfl h
        · have h := h2 k7
          refine j_iconst (v := zI 0) d_Pa_statements_36 (by decide) ?_
          exact zj_zret d_Pa_statements_37 rfl (by decide) (Nat.zero_le _) (Nat.zero_le _) h
theorem o_Pa_statements_45 {x : Int} (cs30 : ¬ x = 30) (cs31 : ¬ x = 31) (cs32 : ¬ x = 32) (cs33 : ¬ x = 33) (cs34 : ¬ x = 34) (cs35 : ¬ x = 35) (cs36 : ¬ x = 36) (cs37 : ¬ x = 37) (cs38 : ¬ x = 38) (cs39 : ¬ x = 39) (cs40 : ¬ x = 40) (cs41 : ¬ x = 41) (cs42 : ¬ x = 42) (cs43 : ¬ x = 43) (cs44 : ¬ x = 44) (cs45 : ¬ x = 45) : x < 30 ∨ 45 < x := by omega
set_option maxHeartbeats 2000000 in
theorem b_Pa_statements_38 {ω : q_W} {σ : q_H} {Q : q_R → q_H → Prop} {d mc ms : Nat} {x1 : Int} {x2 : Int} {p : Nat} (hp : p = 16 ∨ p = 29) (r80 : q_r σ 8 0 = 2) (r81 : q_r σ 8 1 = p) (hE : q_E σ) (h : (0 ≤ (z σ 2 8) ∧ (z σ 2 8) < 4097) ∧ q_imp ((z σ 4 (z σ 2 8).toNat) = 30 ∨ (z σ 4 (z σ 2 8).toNat) = 44 ∨ (z σ 4 (z σ 2 8).toNat) = 45) ((J ω m_Pa_simple d 0 0 0 0 0 [(0, .ref 8)] [] σ (q_ki (fun v τ => J ω m_Pa_statements (d + 1) mc ms 0 0 128 [(0, .ref 8), (2, .int (zI x2))] [.int (zI v)] τ Q)))) ∧ q_imp ((z σ 4 (z σ 2 8).toNat) = 37) ((J ω m_Sc_advance d 0 0 0 0 0 [(0, .ref 2)] [] σ (q_kv (fun τ => J ω m_Pa_statements (d + 1) mc ms 0 0 147 [(0, .ref 8), (1, .int (zI x1)), (2, .int (zI x2))] [] τ Q)))) ∧ q_imp ((z σ 4 (z σ 2 8).toNat) = 38) ((J ω m_Pa_closeBlock d 0 0 0 0 0 [(0, .ref 8)] [] σ (q_ki (fun v τ => J ω m_Pa_statements (d + 1) mc ms 0 0 162 [(0, .ref 8), (2, .int (zI x2))] [.int (zI v)] τ Q)))) ∧ q_imp ((z σ 4 (z σ 2 8).toNat) = 41 ∨ (z σ 4 (z σ 2 8).toNat) = 43) ((J ω m_Pa_fork d 0 0 0 0 0 [(0, .ref 8)] [] σ (q_ki (fun v τ => J ω m_Pa_statements (d + 1) mc ms 0 0 136 [(0, .ref 8), (2, .int (zI x2))] [.int (zI v)] τ Q)))) ∧ q_imp ((z σ 4 (z σ 2 8).toNat) ≠ 30 ∧ (z σ 4 (z σ 2 8).toNat) ≠ 37 ∧ (z σ 4 (z σ 2 8).toNat) ≠ 38 ∧ (z σ 4 (z σ 2 8).toNat) ≠ 41 ∧ (z σ 4 (z σ 2 8).toNat) ≠ 43 ∧ (z σ 4 (z σ 2 8).toNat) ≠ 44 ∧ (z σ 4 (z σ 2 8).toNat) ≠ 45) (q_imp ((z σ 4 (z σ 2 8).toNat) ≠ 46) ((Q (.inl (some (.int (zI 0)))) σ)) ∧ q_imp ((z σ 4 (z σ 2 8).toNat) = 46) (q_imp ((z σ 8 7) ≠ 0) ((Q (.inl (some (.int (zI 0)))) σ)) ∧ q_imp ((z σ 8 7) = 0) ((Q (.inl (some (.int (zI 1)))) σ))))) : J ω m_Pa_statements (d + 1) mc ms 0 0 38 [(0, .ref 8), (1, .int (zI x1)), (2, .int (zI x2))] [] σ Q := by
  refine j_aload_n d_Pa_statements_38 0 rfl ?_
  refine j_getR 2 f_Pa_33 d_Pa_statements_39 (tg_8 hE) (q_okE hE (by decide)) (r80) (by decide) ?_
  obtain ⟨c8, h⟩ := h
  refine j_callV m_Sc_kind [] [] 0 0 0 cV_Pa_75 d_Pa_statements_42 rfl rfl (tg_2 hE) (q_okE hE (by decide)) (Nat.le_of_ble_eq_true rfl) (Nat.succ_le_succ (Nat.zero_le _)) (Nat.le_of_ble_eq_true rfl) (Nat.zero_le _) (Nat.zero_le _) (c_Sc_kind hE c8 (q_z _ _ _) (q_z _ _ _)) (fun v τ h => ?_) (fun x τ h => absurd h.1 (by simp))
  obtain ⟨e1, e2⟩ := h; cases e1; rw [e2]
  obtain ⟨g124, g140, g158, g132, gD⟩ := h
  have jg124 : q_imp ((z σ 4 (z σ 2 8).toNat) = 30 ∨ (z σ 4 (z σ 2 8).toNat) = 44 ∨ (z σ 4 (z σ 2 8).toNat) = 45) (J ω m_Pa_statements (d + 1) mc ms 0 0 124 [(0, .ref 8), (1, .int (zI x1)), (2, .int (zI x2))] [] σ Q) := by
    intro c
    have h := g124 c
    refine j_aload_n d_Pa_statements_124 0 rfl ?_
    refine j_callV m_Pa_simple [] [] d 0 0 cV_Pa_113 d_Pa_statements_125 rfl rfl (tg_8 hE) (q_okE hE (by decide)) (Nat.le_of_ble_eq_true rfl) (Nat.le_refl _) (Nat.le_of_ble_eq_true rfl) (Nat.zero_le _) (Nat.zero_le _) h (fun v τ h => ?_) (fun x τ h => ?_)
    · obtain ⟨v, hv, e1, h⟩ := h; cases e1; exact j_sel [0, 2] rfl h
    · obtain ⟨v, hv, e1, h⟩ := h; cases e1
  have jg140 : q_imp ((z σ 4 (z σ 2 8).toNat) = 37) (J ω m_Pa_statements (d + 1) mc ms 0 0 140 [(0, .ref 8), (1, .int (zI x1)), (2, .int (zI x2))] [] σ Q) := by
    intro c
    have h := g140 c
    refine j_aload_n d_Pa_statements_140 0 rfl ?_
    refine j_getR 2 f_Pa_33 d_Pa_statements_141 (tg_8 hE) (q_okE hE (by decide)) (r80) (by decide) ?_
    refine j_callV m_Sc_advance [] [] d 0 0 cV_Pa_78 d_Pa_statements_144 rfl rfl (tg_2 hE) (q_okE hE (by decide)) (Nat.le_of_ble_eq_true rfl) (Nat.le_refl _) (Nat.le_of_ble_eq_true rfl) (Nat.zero_le _) (Nat.zero_le _) h (fun v τ h => ?_) (fun x τ h => ?_)
    · obtain ⟨e1, h⟩ := h; cases e1; exact j_sel [0, 1, 2] rfl h
    · obtain ⟨e1, h⟩ := h; cases e1
  have jg158 : q_imp ((z σ 4 (z σ 2 8).toNat) = 38) (J ω m_Pa_statements (d + 1) mc ms 0 0 158 [(0, .ref 8), (1, .int (zI x1)), (2, .int (zI x2))] [] σ Q) := by
    intro c
    have h := g158 c
    refine j_aload_n d_Pa_statements_158 0 rfl ?_
    refine j_callV m_Pa_closeBlock [] [] d 0 0 cV_Pa_123 d_Pa_statements_159 rfl rfl (tg_8 hE) (q_okE hE (by decide)) (Nat.le_of_ble_eq_true rfl) (Nat.le_refl _) (Nat.le_of_ble_eq_true rfl) (Nat.zero_le _) (Nat.zero_le _) h (fun v τ h => ?_) (fun x τ h => ?_)
    · obtain ⟨v, hv, e1, h⟩ := h; cases e1; exact j_sel [0, 2] rfl h
    · obtain ⟨v, hv, e1, h⟩ := h; cases e1
  have jg132 : q_imp ((z σ 4 (z σ 2 8).toNat) = 41 ∨ (z σ 4 (z σ 2 8).toNat) = 43) (J ω m_Pa_statements (d + 1) mc ms 0 0 132 [(0, .ref 8), (1, .int (zI x1)), (2, .int (zI x2))] [] σ Q) := by
    intro c
    have h := g132 c
    refine j_aload_n d_Pa_statements_132 0 rfl ?_
    refine j_callV m_Pa_fork [] [] d 0 0 cV_Pa_116 d_Pa_statements_133 rfl rfl (tg_8 hE) (q_okE hE (by decide)) (Nat.le_of_ble_eq_true rfl) (Nat.le_refl _) (Nat.le_of_ble_eq_true rfl) (Nat.zero_le _) (Nat.zero_le _) h (fun v τ h => ?_) (fun x τ h => ?_)
    · obtain ⟨v, hv, e1, h⟩ := h; cases e1; exact j_sel [0, 2] rfl h
    · obtain ⟨v, hv, e1, h⟩ := h; cases e1
  have jgD : q_imp ((z σ 4 (z σ 2 8).toNat) ≠ 30 ∧ (z σ 4 (z σ 2 8).toNat) ≠ 37 ∧ (z σ 4 (z σ 2 8).toNat) ≠ 38 ∧ (z σ 4 (z σ 2 8).toNat) ≠ 41 ∧ (z σ 4 (z σ 2 8).toNat) ≠ 43 ∧ (z σ 4 (z σ 2 8).toNat) ≠ 44 ∧ (z σ 4 (z σ 2 8).toNat) ≠ 45) (J ω m_Pa_statements (d + 1) mc ms 0 0 166 [(0, .ref 8), (1, .int (zI x1)), (2, .int (zI x2))] [] σ Q) := by
    intro c
    have h := gD c
    refine j_aload_n d_Pa_statements_166 0 rfl ?_
    refine j_getR 2 f_Pa_33 d_Pa_statements_167 (tg_8 hE) (q_okE hE (by decide)) (r80) (by decide) ?_
    refine j_callV m_Sc_kind [] [] 0 0 0 cV_Pa_75 d_Pa_statements_170 rfl rfl (tg_2 hE) (q_okE hE (by decide)) (Nat.le_of_ble_eq_true rfl) (Nat.succ_le_succ (Nat.zero_le _)) (Nat.le_of_ble_eq_true rfl) (Nat.zero_le _) (Nat.zero_le _) (c_Sc_kind hE c8 (q_z _ _ _) (q_z _ _ _)) (fun v τ h => ?_) (fun x τ h => absurd h.1 (by simp))
    obtain ⟨e1, e2⟩ := h; cases e1; rw [e2]
    refine j_bipush (v := zI 46) d_Pa_statements_173 (by decide) ?_
    obtain ⟨h1, h2⟩ := h
    refine zj_icmp_ne 189 d_Pa_statements_175 (by decide) (z_R _ _ _) ⟨by decide, by decide⟩ (fun k9 => ?_) (fun k9 => ?_)
    · have h := h1 k9
      refine j_iconst (v := zI 0) d_Pa_statements_189 (by decide) ?_
      exact zj_zret d_Pa_statements_190 rfl (by decide) (Nat.zero_le _) (Nat.zero_le _) h
    · have h := h2 k9
      refine j_aload_n d_Pa_statements_178 0 rfl ?_
      refine zj_getI (z σ 8 7) f_Pa_46 d_Pa_statements_179 (tg_8 hE) (q_okE hE (by decide)) (q_z _ _ _) ?_
      obtain ⟨h1, h2⟩ := h
      refine zj_if_ne 189 d_Pa_statements_182 (by decide) (z_R _ _ _) (fun k10 => ?_) (fun k10 => ?_)
      · have h := h1 k10
        refine j_iconst (v := zI 0) d_Pa_statements_189 (by decide) ?_
        exact zj_zret d_Pa_statements_190 rfl (by decide) (Nat.zero_le _) (Nat.zero_le _) h
      · have h := h2 k10
        refine j_iconst (v := zI 1) d_Pa_statements_185 (by decide) ?_
        refine j_goto 190 d_Pa_statements_186 (by decide) ?_
        exact zj_zret d_Pa_statements_190 rfl (by decide) (Nat.zero_le _) (Nat.zero_le _) h
  by_cases cs30 : (z σ 4 (z σ 2 8).toNat) = 30
  · exact j_topE (v := zI 30) (by rw [cs30]) (j_tabIn 124 d_Pa_statements_45 (by decide) (by decide) rfl (by decide) (jg124 (Or.inl cs30)))
  by_cases cs31 : (z σ 4 (z σ 2 8).toNat) = 31
  · exact j_topE (v := zI 31) (by rw [cs31]) (j_tabIn 166 d_Pa_statements_45 (by decide) (by decide) rfl (by decide) (jgD ⟨cs30, (fun ee => absurd (cs31.symm.trans ee) (by decide)), (fun ee => absurd (cs31.symm.trans ee) (by decide)), (fun ee => absurd (cs31.symm.trans ee) (by decide)), (fun ee => absurd (cs31.symm.trans ee) (by decide)), (fun ee => absurd (cs31.symm.trans ee) (by decide)), (fun ee => absurd (cs31.symm.trans ee) (by decide))⟩))
  by_cases cs32 : (z σ 4 (z σ 2 8).toNat) = 32
  · exact j_topE (v := zI 32) (by rw [cs32]) (j_tabIn 166 d_Pa_statements_45 (by decide) (by decide) rfl (by decide) (jgD ⟨cs30, (fun ee => absurd (cs32.symm.trans ee) (by decide)), (fun ee => absurd (cs32.symm.trans ee) (by decide)), (fun ee => absurd (cs32.symm.trans ee) (by decide)), (fun ee => absurd (cs32.symm.trans ee) (by decide)), (fun ee => absurd (cs32.symm.trans ee) (by decide)), (fun ee => absurd (cs32.symm.trans ee) (by decide))⟩))
  by_cases cs33 : (z σ 4 (z σ 2 8).toNat) = 33
  · exact j_topE (v := zI 33) (by rw [cs33]) (j_tabIn 166 d_Pa_statements_45 (by decide) (by decide) rfl (by decide) (jgD ⟨cs30, (fun ee => absurd (cs33.symm.trans ee) (by decide)), (fun ee => absurd (cs33.symm.trans ee) (by decide)), (fun ee => absurd (cs33.symm.trans ee) (by decide)), (fun ee => absurd (cs33.symm.trans ee) (by decide)), (fun ee => absurd (cs33.symm.trans ee) (by decide)), (fun ee => absurd (cs33.symm.trans ee) (by decide))⟩))
  by_cases cs34 : (z σ 4 (z σ 2 8).toNat) = 34
  · exact j_topE (v := zI 34) (by rw [cs34]) (j_tabIn 166 d_Pa_statements_45 (by decide) (by decide) rfl (by decide) (jgD ⟨cs30, (fun ee => absurd (cs34.symm.trans ee) (by decide)), (fun ee => absurd (cs34.symm.trans ee) (by decide)), (fun ee => absurd (cs34.symm.trans ee) (by decide)), (fun ee => absurd (cs34.symm.trans ee) (by decide)), (fun ee => absurd (cs34.symm.trans ee) (by decide)), (fun ee => absurd (cs34.symm.trans ee) (by decide))⟩))
  by_cases cs35 : (z σ 4 (z σ 2 8).toNat) = 35
  · exact j_topE (v := zI 35) (by rw [cs35]) (j_tabIn 166 d_Pa_statements_45 (by decide) (by decide) rfl (by decide) (jgD ⟨cs30, (fun ee => absurd (cs35.symm.trans ee) (by decide)), (fun ee => absurd (cs35.symm.trans ee) (by decide)), (fun ee => absurd (cs35.symm.trans ee) (by decide)), (fun ee => absurd (cs35.symm.trans ee) (by decide)), (fun ee => absurd (cs35.symm.trans ee) (by decide)), (fun ee => absurd (cs35.symm.trans ee) (by decide))⟩))
  by_cases cs36 : (z σ 4 (z σ 2 8).toNat) = 36
  · exact j_topE (v := zI 36) (by rw [cs36]) (j_tabIn 166 d_Pa_statements_45 (by decide) (by decide) rfl (by decide) (jgD ⟨cs30, (fun ee => absurd (cs36.symm.trans ee) (by decide)), (fun ee => absurd (cs36.symm.trans ee) (by decide)), (fun ee => absurd (cs36.symm.trans ee) (by decide)), (fun ee => absurd (cs36.symm.trans ee) (by decide)), (fun ee => absurd (cs36.symm.trans ee) (by decide)), (fun ee => absurd (cs36.symm.trans ee) (by decide))⟩))
  by_cases cs37 : (z σ 4 (z σ 2 8).toNat) = 37
  · exact j_topE (v := zI 37) (by rw [cs37]) (j_tabIn 140 d_Pa_statements_45 (by decide) (by decide) rfl (by decide) (jg140 cs37))
  by_cases cs38 : (z σ 4 (z σ 2 8).toNat) = 38
  · exact j_topE (v := zI 38) (by rw [cs38]) (j_tabIn 158 d_Pa_statements_45 (by decide) (by decide) rfl (by decide) (jg158 cs38))
  by_cases cs39 : (z σ 4 (z σ 2 8).toNat) = 39
  · exact j_topE (v := zI 39) (by rw [cs39]) (j_tabIn 166 d_Pa_statements_45 (by decide) (by decide) rfl (by decide) (jgD ⟨cs30, cs37, cs38, (fun ee => absurd (cs39.symm.trans ee) (by decide)), (fun ee => absurd (cs39.symm.trans ee) (by decide)), (fun ee => absurd (cs39.symm.trans ee) (by decide)), (fun ee => absurd (cs39.symm.trans ee) (by decide))⟩))
  by_cases cs40 : (z σ 4 (z σ 2 8).toNat) = 40
  · exact j_topE (v := zI 40) (by rw [cs40]) (j_tabIn 166 d_Pa_statements_45 (by decide) (by decide) rfl (by decide) (jgD ⟨cs30, cs37, cs38, (fun ee => absurd (cs40.symm.trans ee) (by decide)), (fun ee => absurd (cs40.symm.trans ee) (by decide)), (fun ee => absurd (cs40.symm.trans ee) (by decide)), (fun ee => absurd (cs40.symm.trans ee) (by decide))⟩))
  by_cases cs41 : (z σ 4 (z σ 2 8).toNat) = 41
  · exact j_topE (v := zI 41) (by rw [cs41]) (j_tabIn 132 d_Pa_statements_45 (by decide) (by decide) rfl (by decide) (jg132 (Or.inl cs41)))
  by_cases cs42 : (z σ 4 (z σ 2 8).toNat) = 42
  · exact j_topE (v := zI 42) (by rw [cs42]) (j_tabIn 166 d_Pa_statements_45 (by decide) (by decide) rfl (by decide) (jgD ⟨cs30, cs37, cs38, cs41, (fun ee => absurd (cs42.symm.trans ee) (by decide)), (fun ee => absurd (cs42.symm.trans ee) (by decide)), (fun ee => absurd (cs42.symm.trans ee) (by decide))⟩))
  by_cases cs43 : (z σ 4 (z σ 2 8).toNat) = 43
  · exact j_topE (v := zI 43) (by rw [cs43]) (j_tabIn 132 d_Pa_statements_45 (by decide) (by decide) rfl (by decide) (jg132 (Or.inr (cs43))))
  by_cases cs44 : (z σ 4 (z σ 2 8).toNat) = 44
  · exact j_topE (v := zI 44) (by rw [cs44]) (j_tabIn 124 d_Pa_statements_45 (by decide) (by decide) rfl (by decide) (jg124 (Or.inr (Or.inl cs44))))
  by_cases cs45 : (z σ 4 (z σ 2 8).toNat) = 45
  · exact j_topE (v := zI 45) (by rw [cs45]) (j_tabIn 124 d_Pa_statements_45 (by decide) (by decide) rfl (by decide) (jg124 (Or.inr (Or.inr (cs45)))))
  exact j_tabOut 166 d_Pa_statements_45 (by rw [zI_toInt (z_R _ _ _)]; exact o_Pa_statements_45 cs30 cs31 cs32 cs33 cs34 cs35 cs36 cs37 cs38 cs39 cs40 cs41 cs42 cs43 cs44 cs45) (by decide) (jgD ⟨cs30, cs37, cs38, cs41, cs43, cs44, cs45⟩)
set_option maxHeartbeats 2000000 in
theorem b_Pa_statements_128 {ω : q_W} {σ : q_H} {Q : q_R → q_H → Prop} {d mc ms : Nat} {x2 : Int} {y0 : Int} {p : Nat} (hp : p = 16 ∨ p = 29) (r80 : q_r σ 8 0 = 2) (r81 : q_r σ 8 1 = p) (hE : q_E σ) (h : (J ω m_Pa_statements (d + 1) mc ms 0 0 4 [(0, .ref 8), (1, .int (zI y0)), (2, .int (zI (x2 + 1)))] [] σ Q)) : J ω m_Pa_statements (d + 1) mc ms 0 0 128 [(0, .ref 8), (2, .int (zI x2))] [.int (zI y0)] σ Q := by
  refine j_istore_n (L' := [(1, .int (zI y0)), (0, .ref 8), (2, .int (zI x2))]) d_Pa_statements_128 (by decide) rfl ?_
  refine j_goto 191 d_Pa_statements_129 (by decide) ?_
  refine zj_iinc (L' := [(2, .int (zI (x2 + 1))), (1, .int (zI y0)), (0, .ref 8)]) (x2 + 1) d_Pa_statements_191 2 rfl (by omega) (by decide) rfl ?_
  refine j_goto 4 d_Pa_statements_194 (by decide) ?_
  exact j_sel [2, 1, 0] rfl h
set_option maxHeartbeats 2000000 in
theorem b_Pa_statements_147 {ω : q_W} {σ : q_H} {Q : q_R → q_H → Prop} {d mc ms : Nat} {x1 : Int} {x2 : Int} {p : Nat} (hp : p = 16 ∨ p = 29) (r80 : q_r σ 8 0 = 2) (r81 : q_r σ 8 1 = p) (hE : q_E σ) (h : (J ω m_Pa_enter d 0 0 0 0 0 [(0, .ref 8), (1, .int (zI 1)), (2, .int (zI 0)), (3, .int (zI 0)), (4, .int (zI 0))] [] σ (q_kv (fun τ => J ω m_Pa_statements (d + 1) mc ms 0 0 155 [(0, .ref 8), (1, .int (zI x1)), (2, .int (zI x2))] [] τ Q)))) : J ω m_Pa_statements (d + 1) mc ms 0 0 147 [(0, .ref 8), (1, .int (zI x1)), (2, .int (zI x2))] [] σ Q := by
  refine j_aload_n d_Pa_statements_147 0 rfl ?_
  refine j_iconst (v := zI 1) d_Pa_statements_148 (by decide) ?_
  refine j_iconst (v := zI 0) d_Pa_statements_149 (by decide) ?_
  refine j_iconst (v := zI 0) d_Pa_statements_150 (by decide) ?_
  refine j_iconst (v := zI 0) d_Pa_statements_151 (by decide) ?_
  refine j_callV m_Pa_enter [.int (zI 1), .int (zI 0), .int (zI 0), .int (zI 0)] [] d 0 0 cV_Pa_119 d_Pa_statements_152 rfl rfl (tg_8 hE) (q_okE hE (by decide)) (Nat.le_of_ble_eq_true rfl) (Nat.le_refl _) (Nat.le_of_ble_eq_true rfl) (Nat.zero_le _) (Nat.zero_le _) h (fun v τ h => ?_) (fun x τ h => ?_)
  · obtain ⟨e1, h⟩ := h; cases e1; exact j_sel [0, 1, 2] rfl h
  · obtain ⟨e1, h⟩ := h; cases e1
set_option maxHeartbeats 2000000 in
theorem b_Pa_statements_162 {ω : q_W} {σ : q_H} {Q : q_R → q_H → Prop} {d mc ms : Nat} {x2 : Int} {y0 : Int} {p : Nat} (hp : p = 16 ∨ p = 29) (r80 : q_r σ 8 0 = 2) (r81 : q_r σ 8 1 = p) (hE : q_E σ) (h : (J ω m_Pa_statements (d + 1) mc ms 0 0 4 [(0, .ref 8), (1, .int (zI y0)), (2, .int (zI (x2 + 1)))] [] σ Q)) : J ω m_Pa_statements (d + 1) mc ms 0 0 162 [(0, .ref 8), (2, .int (zI x2))] [.int (zI y0)] σ Q := by
  refine j_istore_n (L' := [(1, .int (zI y0)), (0, .ref 8), (2, .int (zI x2))]) d_Pa_statements_162 (by decide) rfl ?_
  refine j_goto 191 d_Pa_statements_163 (by decide) ?_
  refine zj_iinc (L' := [(2, .int (zI (x2 + 1))), (1, .int (zI y0)), (0, .ref 8)]) (x2 + 1) d_Pa_statements_191 2 rfl (by omega) (by decide) rfl ?_
  refine j_goto 4 d_Pa_statements_194 (by decide) ?_
  exact j_sel [2, 1, 0] rfl h
set_option maxHeartbeats 2000000 in
theorem b_Pa_statements_136 {ω : q_W} {σ : q_H} {Q : q_R → q_H → Prop} {d mc ms : Nat} {x2 : Int} {y0 : Int} {p : Nat} (hp : p = 16 ∨ p = 29) (r80 : q_r σ 8 0 = 2) (r81 : q_r σ 8 1 = p) (hE : q_E σ) (h : (J ω m_Pa_statements (d + 1) mc ms 0 0 4 [(0, .ref 8), (1, .int (zI y0)), (2, .int (zI (x2 + 1)))] [] σ Q)) : J ω m_Pa_statements (d + 1) mc ms 0 0 136 [(0, .ref 8), (2, .int (zI x2))] [.int (zI y0)] σ Q := by
  refine j_istore_n (L' := [(1, .int (zI y0)), (0, .ref 8), (2, .int (zI x2))]) d_Pa_statements_136 (by decide) rfl ?_
  refine j_goto 191 d_Pa_statements_137 (by decide) ?_
  refine zj_iinc (L' := [(2, .int (zI (x2 + 1))), (1, .int (zI y0)), (0, .ref 8)]) (x2 + 1) d_Pa_statements_191 2 rfl (by omega) (by decide) rfl ?_
  refine j_goto 4 d_Pa_statements_194 (by decide) ?_
  exact j_sel [2, 1, 0] rfl h
set_option maxHeartbeats 2000000 in
theorem b_Pa_statements_155 {ω : q_W} {σ : q_H} {Q : q_R → q_H → Prop} {d mc ms : Nat} {x1 : Int} {x2 : Int} {p : Nat} (hp : p = 16 ∨ p = 29) (r80 : q_r σ 8 0 = 2) (r81 : q_r σ 8 1 = p) (hE : q_E σ) (h : (J ω m_Pa_statements (d + 1) mc ms 0 0 4 [(0, .ref 8), (1, .int (zI x1)), (2, .int (zI (x2 + 1)))] [] σ Q)) : J ω m_Pa_statements (d + 1) mc ms 0 0 155 [(0, .ref 8), (1, .int (zI x1)), (2, .int (zI x2))] [] σ Q := by
  refine j_goto 191 d_Pa_statements_155 (by decide) ?_
  refine zj_iinc (L' := [(2, .int (zI (x2 + 1))), (0, .ref 8), (1, .int (zI x1))]) (x2 + 1) d_Pa_statements_191 2 rfl (by omega) (by decide) rfl ?_
  refine j_goto 4 d_Pa_statements_194 (by decide) ?_
  exact j_sel [1, 2, 0] rfl h
set_option maxHeartbeats 2000000 in
theorem b_Pa_simple_0 {ω : q_W} {σ : q_H} {Q : q_R → q_H → Prop} {d mc ms : Nat}  {p : Nat} (hp : p = 16 ∨ p = 29) (r80 : q_r σ 8 0 = 2) (r81 : q_r σ 8 1 = p) (hE : q_E σ) (h : (0 ≤ (z σ 2 8) ∧ (z σ 2 8) < 4097) ∧ q_imp ((z σ 4 (z σ 2 8).toNat) ≠ 30) (q_imp ((z σ 4 (z σ 2 8).toNat) ≠ 44) ((J ω m_Pa_simple (d + 1) mc ms 0 0 33 [(0, .ref 8)] [.int (zI 3)] σ Q)) ∧ q_imp ((z σ 4 (z σ 2 8).toNat) = 44) ((J ω m_Pa_simple (d + 1) mc ms 0 0 33 [(0, .ref 8)] [.int (zI 2)] σ Q))) ∧ q_imp ((z σ 4 (z σ 2 8).toNat) = 30) ((J ω m_Pa_simple (d + 1) mc ms 0 0 33 [(0, .ref 8)] [.int (zI 1)] σ Q))) : J ω m_Pa_simple (d + 1) mc ms 0 0 0 [(0, .ref 8)] [] σ Q := by
  refine j_aload_n d_Pa_simple_0 0 rfl ?_
  refine j_getR 2 f_Pa_33 d_Pa_simple_1 (tg_8 hE) (q_okE hE (by decide)) (r80) (by decide) ?_
  obtain ⟨c1, h⟩ := h
  refine j_callV m_Sc_kind [] [] 0 0 0 cV_Pa_75 d_Pa_simple_4 rfl rfl (tg_2 hE) (q_okE hE (by decide)) (Nat.le_of_ble_eq_true rfl) (Nat.succ_le_succ (Nat.zero_le _)) (Nat.le_of_ble_eq_true rfl) (Nat.zero_le _) (Nat.zero_le _) (c_Sc_kind hE c1 (q_z _ _ _) (q_z _ _ _)) (fun v τ h => ?_) (fun x τ h => absurd h.1 (by simp))
  obtain ⟨e1, e2⟩ := h; cases e1; rw [e2]
  refine j_bipush (v := zI 30) d_Pa_simple_7 (by decide) ?_
  obtain ⟨h1, h2⟩ := h
  refine zj_icmp_ne 16 d_Pa_simple_9 (by decide) (z_R _ _ _) ⟨by decide, by decide⟩ (fun k2 => ?_) (fun k2 => ?_)
  · have h := h1 k2
    refine j_aload_n d_Pa_simple_16 0 rfl ?_
    refine j_getR 2 f_Pa_33 d_Pa_simple_17 (tg_8 hE) (q_okE hE (by decide)) (r80) (by decide) ?_
    refine j_callV m_Sc_kind [] [] 0 0 0 cV_Pa_75 d_Pa_simple_20 rfl rfl (tg_2 hE) (q_okE hE (by decide)) (Nat.le_of_ble_eq_true rfl) (Nat.succ_le_succ (Nat.zero_le _)) (Nat.le_of_ble_eq_true rfl) (Nat.zero_le _) (Nat.zero_le _) (c_Sc_kind hE c1 (q_z _ _ _) (q_z _ _ _)) (fun v τ h => ?_) (fun x τ h => absurd h.1 (by simp))
    obtain ⟨e1, e2⟩ := h; cases e1; rw [e2]
    refine j_bipush (v := zI 44) d_Pa_simple_23 (by decide) ?_
    obtain ⟨h1, h2⟩ := h
    refine zj_icmp_ne 32 d_Pa_simple_25 (by decide) (z_R _ _ _) ⟨by decide, by decide⟩ (fun k3 => ?_) (fun k3 => ?_)
    · have h := h1 k3
      refine j_iconst (v := zI 3) d_Pa_simple_32 (by decide) ?_
      exact j_sel [0] rfl h
    · have h := h2 k3
      refine j_iconst (v := zI 2) d_Pa_simple_28 (by decide) ?_
      refine j_goto 33 d_Pa_simple_29 (by decide) ?_
      exact j_sel [0] rfl h
  · have h := h2 k2
    refine j_iconst (v := zI 1) d_Pa_simple_12 (by decide) ?_
    refine j_goto 33 d_Pa_simple_13 (by decide) ?_
    exact j_sel [0] rfl h
set_option maxHeartbeats 2000000 in
theorem b_Pa_simple_33 {ω : q_W} {σ : q_H} {Q : q_R → q_H → Prop} {d mc ms : Nat} {y0 : Int} {p : Nat} (hp : p = 16 ∨ p = 29) (r80 : q_r σ 8 0 = 2) (r81 : q_r σ 8 1 = p) (hE : q_E σ) (h : inR y0 ∧ q_imp (y0 ≠ 1) ((J ω m_Pa_simple (d + 1) mc ms 0 0 53 [(0, .ref 8), (1, .int (zI y0))] [.int (zI (z σ p 7))] σ Q)) ∧ q_imp (y0 = 1) ((J ω m_Pa_target d 0 0 0 0 0 [(0, .ref 8)] [] σ (q_ki (fun v τ => J ω m_Pa_simple (d + 1) mc ms 0 0 43 [(0, .ref 8), (1, .int (zI y0))] [.int (zI v)] τ Q))))) : J ω m_Pa_simple (d + 1) mc ms 0 0 33 [(0, .ref 8)] [.int (zI y0)] σ Q := by
  refine j_istore_n (L' := [(1, .int (zI y0)), (0, .ref 8)]) d_Pa_simple_33 (by decide) rfl ?_
  refine j_iload_n d_Pa_simple_34 0 rfl ?_
  refine j_iconst (v := zI 1) d_Pa_simple_35 (by decide) ?_
  obtain ⟨r4, h⟩ := h
  obtain ⟨h1, h2⟩ := h
  refine zj_icmp_ne 46 d_Pa_simple_36 (by decide) r4 ⟨by decide, by decide⟩ (fun k5 => ?_) (fun k5 => ?_)
  · have h := h1 k5
    refine j_aload_n d_Pa_simple_46 1 rfl ?_
    refine j_getR p f_Pa_37 d_Pa_simple_47 (tg_8 hE) (q_okE hE (by decide)) (r81) (by omega) ?_
    refine zj_getI (z σ p 7) f_Pa_133 d_Pa_simple_50 (tY_p_0 hE hp) (q_okE hE (by omega)) (q_z _ _ _) ?_
    exact j_sel [1, 0] rfl h
  · have h := h2 k5
    refine j_aload_n d_Pa_simple_39 1 rfl ?_
    refine j_callV m_Pa_target [] [] d 0 0 cV_Pa_130 d_Pa_simple_40 rfl rfl (tg_8 hE) (q_okE hE (by decide)) (Nat.le_of_ble_eq_true rfl) (Nat.le_refl _) (Nat.le_of_ble_eq_true rfl) (Nat.zero_le _) (Nat.zero_le _) h (fun v τ h => ?_) (fun x τ h => ?_)
    · obtain ⟨v, hv, e1, h⟩ := h; cases e1; exact j_sel [1, 0] rfl h
    · obtain ⟨v, hv, e1, h⟩ := h; cases e1
set_option maxHeartbeats 2000000 in
theorem b_Pa_simple_53 {ω : q_W} {σ : q_H} {Q : q_R → q_H → Prop} {d mc ms : Nat} {x1 : Int} {y0 : Int} {p : Nat} (hp : p = 16 ∨ p = 29) (r80 : q_r σ 8 0 = 2) (r81 : q_r σ 8 1 = p) (hE : q_E σ) (h : (J ω m_Sc_advance d 0 0 0 0 0 [(0, .ref 2)] [] σ (q_kv (fun τ => J ω m_Pa_simple (d + 1) mc ms 0 0 61 [(0, .ref 8), (1, .int (zI x1)), (2, .int (zI y0))] [] τ Q)))) : J ω m_Pa_simple (d + 1) mc ms 0 0 53 [(0, .ref 8), (1, .int (zI x1))] [.int (zI y0)] σ Q := by
  refine j_istore_n (L' := [(2, .int (zI y0)), (0, .ref 8), (1, .int (zI x1))]) d_Pa_simple_53 (by decide) rfl ?_
  refine j_aload_n d_Pa_simple_54 1 rfl ?_
  refine j_getR 2 f_Pa_33 d_Pa_simple_55 (tg_8 hE) (q_okE hE (by decide)) (r80) (by decide) ?_
  refine j_callV m_Sc_advance [] [] d 0 0 cV_Pa_78 d_Pa_simple_58 rfl rfl (tg_2 hE) (q_okE hE (by decide)) (Nat.le_of_ble_eq_true rfl) (Nat.le_refl _) (Nat.le_of_ble_eq_true rfl) (Nat.zero_le _) (Nat.zero_le _) h (fun v τ h => ?_) (fun x τ h => ?_)
  · obtain ⟨e1, h⟩ := h; cases e1; exact j_sel [1, 2, 0] rfl h
  · obtain ⟨e1, h⟩ := h; cases e1
set_option maxHeartbeats 2000000 in
theorem b_Pa_simple_43 {ω : q_W} {σ : q_H} {Q : q_R → q_H → Prop} {d mc ms : Nat} {x1 : Int} {y0 : Int} {p : Nat} (hp : p = 16 ∨ p = 29) (r80 : q_r σ 8 0 = 2) (r81 : q_r σ 8 1 = p) (hE : q_E σ) (h : (J ω m_Pa_simple (d + 1) mc ms 0 0 53 [(0, .ref 8), (1, .int (zI x1))] [.int (zI y0)] σ Q)) : J ω m_Pa_simple (d + 1) mc ms 0 0 43 [(0, .ref 8), (1, .int (zI x1))] [.int (zI y0)] σ Q := by
  refine j_goto 53 d_Pa_simple_43 (by decide) ?_
  exact j_sel [0, 1] rfl h
set_option maxHeartbeats 2000000 in
theorem b_Pa_simple_61 {ω : q_W} {σ : q_H} {Q : q_R → q_H → Prop} {d mc ms : Nat} {x1 : Int} {x2 : Int} {p : Nat} (hp : p = 16 ∨ p = 29) (r80 : q_r σ 8 0 = 2) (r81 : q_r σ 8 1 = p) (hE : q_E σ) (h : inR x1 ∧ q_imp (x1 ≠ 1) ((J ω m_Pa_simple (d + 1) mc ms 0 0 77 [(0, .ref 8), (1, .int (zI x1)), (2, .int (zI x2))] [] σ Q)) ∧ q_imp (x1 = 1) ((J ω m_Pa_accept d 0 0 0 0 0 [(0, .ref 8), (1, .int (zI 31))] [] σ (q_ki (fun v τ => J ω m_Pa_simple (d + 1) mc ms 0 0 72 [(0, .ref 8), (1, .int (zI x1)), (2, .int (zI x2))] [.int (zI v)] τ Q))))) : J ω m_Pa_simple (d + 1) mc ms 0 0 61 [(0, .ref 8), (1, .int (zI x1)), (2, .int (zI x2))] [] σ Q := by
  refine j_iload_n d_Pa_simple_61 1 rfl ?_
  refine j_iconst (v := zI 1) d_Pa_simple_62 (by decide) ?_
  obtain ⟨r6, h⟩ := h
  obtain ⟨h1, h2⟩ := h
  refine zj_icmp_ne 77 d_Pa_simple_63 (by decide) r6 ⟨by decide, by decide⟩ (fun k7 => ?_) (fun k7 => ?_)
  · have h := h1 k7
    exact j_sel [0, 1, 2] rfl h
  · have h := h2 k7
    refine j_aload_n d_Pa_simple_66 0 rfl ?_
    refine j_bipush (v := zI 31) d_Pa_simple_67 (by decide) ?_
    refine j_callV m_Pa_accept [.int (zI 31)] [] d 0 0 cV_Pa_95 d_Pa_simple_69 rfl rfl (tg_8 hE) (q_okE hE (by decide)) (Nat.le_of_ble_eq_true rfl) (Nat.le_refl _) (Nat.le_of_ble_eq_true rfl) (Nat.zero_le _) (Nat.zero_le _) h (fun v τ h => ?_) (fun x τ h => ?_)
    · obtain ⟨v, hv, e1, h⟩ := h; cases e1; exact j_sel [0, 1, 2] rfl h
    · obtain ⟨v, hv, e1, h⟩ := h; cases e1
set_option maxHeartbeats 2000000 in
theorem b_Pa_simple_77 {ω : q_W} {σ : q_H} {Q : q_R → q_H → Prop} {d mc ms : Nat} {x1 : Int} {x2 : Int} {p : Nat} (hp : p = 16 ∨ p = 29) (r80 : q_r σ 8 0 = 2) (r81 : q_r σ 8 1 = p) (hE : q_E σ) (h : (J ω m_Pa_expression d 0 0 0 0 0 [(0, .ref 8), (1, .int (zI (z σ 8 7)))] [] σ (q_ki (fun v τ => J ω m_Pa_simple (d + 1) mc ms 0 0 93 [(0, .ref 8), (1, .int (zI x1)), (2, .int (zI x2)), (3, .int (zI (z σ p 17)))] [.int (zI v)] τ Q)))) : J ω m_Pa_simple (d + 1) mc ms 0 0 77 [(0, .ref 8), (1, .int (zI x1)), (2, .int (zI x2))] [] σ Q := by
  refine j_aload_n d_Pa_simple_77 0 rfl ?_
  refine j_getR p f_Pa_37 d_Pa_simple_78 (tg_8 hE) (q_okE hE (by decide)) (r81) (by omega) ?_
  refine zj_getI (z σ p 17) f_Pa_136 d_Pa_simple_81 (tY_p_0 hE hp) (q_okE hE (by omega)) (q_z _ _ _) ?_
  refine j_istore_n (L' := [(3, .int (zI (z σ p 17))), (0, .ref 8), (1, .int (zI x1)), (2, .int (zI x2))]) d_Pa_simple_84 (by decide) rfl ?_
  refine j_aload_n d_Pa_simple_85 1 rfl ?_
  refine j_aload_n d_Pa_simple_86 1 rfl ?_
  refine zj_getI (z σ 8 7) f_Pa_46 d_Pa_simple_87 (tg_8 hE) (q_okE hE (by decide)) (q_z _ _ _) ?_
  refine j_callV m_Pa_expression [.int (zI (z σ 8 7))] [] d 0 0 cV_Pa_139 d_Pa_simple_90 rfl rfl (tg_8 hE) (q_okE hE (by decide)) (Nat.le_of_ble_eq_true rfl) (Nat.le_refl _) (Nat.le_of_ble_eq_true rfl) (Nat.zero_le _) (Nat.zero_le _) h (fun v τ h => ?_) (fun x τ h => ?_)
  · obtain ⟨v, hv, e1, h⟩ := h; cases e1; exact j_sel [1, 2, 3, 0] rfl h
  · obtain ⟨v, hv, e1, h⟩ := h; cases e1
set_option maxHeartbeats 2000000 in
theorem b_Pa_simple_72 {ω : q_W} {σ : q_H} {Q : q_R → q_H → Prop} {d mc ms : Nat} {x1 : Int} {x2 : Int} {y0 : Int} {p : Nat} (hp : p = 16 ∨ p = 29) (r80 : q_r σ 8 0 = 2) (r81 : q_r σ 8 1 = p) (hE : q_E σ) (h : inR y0 ∧ q_imp (y0 ≠ 0) ((J ω m_Pa_simple (d + 1) mc ms 0 0 77 [(0, .ref 8), (1, .int (zI x1)), (2, .int (zI x2))] [] σ Q)) ∧ q_imp (y0 = 0) ((Q (.inl (some (.int (zI 0)))) σ))) : J ω m_Pa_simple (d + 1) mc ms 0 0 72 [(0, .ref 8), (1, .int (zI x1)), (2, .int (zI x2))] [.int (zI y0)] σ Q := by
  obtain ⟨r8, h⟩ := h
  obtain ⟨h1, h2⟩ := h
  refine zj_if_ne 77 d_Pa_simple_72 (by decide) r8 (fun k9 => ?_) (fun k9 => ?_)
  · have h := h1 k9
    exact j_sel [0, 1, 2] rfl h
  · have h := h2 k9
    refine j_iconst (v := zI 0) d_Pa_simple_75 (by decide) ?_
    exact zj_zret d_Pa_simple_76 rfl (by decide) (Nat.zero_le _) (Nat.zero_le _) h
set_option maxHeartbeats 2000000 in
theorem b_Pa_simple_93 {ω : q_W} {σ : q_H} {Q : q_R → q_H → Prop} {d mc ms : Nat} {x1 : Int} {x2 : Int} {x3 : Int} {y0 : Int} {p : Nat} (hp : p = 16 ∨ p = 29) (r80 : q_r σ 8 0 = 2) (r81 : q_r σ 8 1 = p) (hE : q_E σ) (h : inR y0 ∧ q_imp (y0 = (-1)) ((Q (.inl (some (.int (zI 0)))) σ)) ∧ q_imp (y0 ≠ (-1)) ((J ω m_Pa_accept d 0 0 0 0 0 [(0, .ref 8), (1, .int (zI 32))] [] σ (q_ki (fun v τ => J ω m_Pa_simple (d + 1) mc ms 0 0 107 [(0, .ref 8), (1, .int (zI x1)), (2, .int (zI x2)), (3, .int (zI x3)), (4, .int (zI y0))] [.int (zI v)] τ Q))))) : J ω m_Pa_simple (d + 1) mc ms 0 0 93 [(0, .ref 8), (1, .int (zI x1)), (2, .int (zI x2)), (3, .int (zI x3))] [.int (zI y0)] σ Q := by
  refine j_istore (L' := [(4, .int (zI y0)), (0, .ref 8), (1, .int (zI x1)), (2, .int (zI x2)), (3, .int (zI x3))]) d_Pa_simple_93 (by decide) rfl ?_
  refine j_iload d_Pa_simple_95 0 rfl ?_
  refine j_iconst (v := zI (-1)) d_Pa_simple_97 (by decide) ?_
  obtain ⟨r10, h⟩ := h
  obtain ⟨h1, h2⟩ := h
  refine zj_icmp_eq 110 d_Pa_simple_98 (by decide) r10 ⟨by decide, by decide⟩ (fun k11 => ?_) (fun k11 => ?_)
  · have h := h1 k11
    refine j_iconst (v := zI 0) d_Pa_simple_110 (by decide) ?_
    exact zj_zret d_Pa_simple_111 rfl (by decide) (Nat.zero_le _) (Nat.zero_le _) h
  · have h := h2 k11
    refine j_aload_n d_Pa_simple_101 1 rfl ?_
    refine j_bipush (v := zI 32) d_Pa_simple_102 (by decide) ?_
    refine j_callV m_Pa_accept [.int (zI 32)] [] d 0 0 cV_Pa_95 d_Pa_simple_104 rfl rfl (tg_8 hE) (q_okE hE (by decide)) (Nat.le_of_ble_eq_true rfl) (Nat.le_refl _) (Nat.le_of_ble_eq_true rfl) (Nat.zero_le _) (Nat.zero_le _) h (fun v τ h => ?_) (fun x τ h => ?_)
    · obtain ⟨v, hv, e1, h⟩ := h; cases e1; exact j_sel [1, 2, 3, 4, 0] rfl h
    · obtain ⟨v, hv, e1, h⟩ := h; cases e1
set_option maxHeartbeats 2000000 in
theorem b_Pa_simple_107 {ω : q_W} {σ : q_H} {Q : q_R → q_H → Prop} {d mc ms : Nat} {x1 : Int} {x2 : Int} {x3 : Int} {x4 : Int} {y0 : Int} {p : Nat} (hp : p = 16 ∨ p = 29) (r80 : q_r σ 8 0 = 2) (r81 : q_r σ 8 1 = p) (hE : q_E σ) (h : inR y0 ∧ q_imp (y0 ≠ 0) (inR x1 ∧ q_imp (x1 ≠ 2) ((J ω m_Pa_simple (d + 1) mc ms 0 0 130 [(0, .ref 8), (1, .int (zI x1)), (2, .int (zI x2)), (3, .int (zI x3)), (4, .int (zI x4))] [] σ Q)) ∧ q_imp (x1 = 2) ((J ω m_Pa_simple (d + 1) mc ms 0 0 130 [(0, .ref 8), (1, .int (zI x1)), (2, .int (zI x2)), (3, .int (zI x3)), (4, .int (zI x4))] [] (zs σ p 7 ((z σ p 7) + 1)) Q))) ∧ q_imp (y0 = 0) ((Q (.inl (some (.int (zI 0)))) σ))) : J ω m_Pa_simple (d + 1) mc ms 0 0 107 [(0, .ref 8), (1, .int (zI x1)), (2, .int (zI x2)), (3, .int (zI x3)), (4, .int (zI x4))] [.int (zI y0)] σ Q := by
  obtain ⟨r12, h⟩ := h
  obtain ⟨h1, h2⟩ := h
  refine zj_if_ne 112 d_Pa_simple_107 (by decide) r12 (fun k13 => ?_) (fun k13 => ?_)
  · have h := h1 k13
    refine j_iload_n d_Pa_simple_112 1 rfl ?_
    refine j_iconst (v := zI 2) d_Pa_simple_113 (by decide) ?_
    obtain ⟨r14, h⟩ := h
    obtain ⟨h1, h2⟩ := h
    refine zj_icmp_ne 130 d_Pa_simple_114 (by decide) r14 ⟨by decide, by decide⟩ (fun k15 => ?_) (fun k15 => ?_)
    · have h := h1 k15
      exact j_sel [0, 1, 2, 3, 4] rfl h
    · have h := h2 k15
      refine j_aload_n d_Pa_simple_117 0 rfl ?_
      refine j_getR p f_Pa_37 d_Pa_simple_118 (tg_8 hE) (q_okE hE (by decide)) (r81) (by omega) ?_
      refine j_dup d_Pa_simple_121 rfl ?_
      refine zj_getI (z σ p 7) f_Pa_133 d_Pa_simple_122 (tY_p_0 hE hp) (q_okE hE (by omega)) (q_z _ _ _) ?_
      refine j_iconst (v := zI 1) d_Pa_simple_125 (by decide) ?_
      refine zj_iadd ((z σ p 7) + 1) (by omega) d_Pa_simple_126 ?_
      refine zj_putI (g_Pa_133 _) d_Pa_simple_127 (tY_p_0 hE hp) (q_okE hE (by omega)) ?_
      exact j_sel [0, 1, 2, 3, 4] rfl h
  · have h := h2 k13
    refine j_iconst (v := zI 0) d_Pa_simple_110 (by decide) ?_
    exact zj_zret d_Pa_simple_111 rfl (by decide) (Nat.zero_le _) (Nat.zero_le _) h
set_option maxHeartbeats 2000000 in
theorem b_Pa_simple_130 {ω : q_W} {σ : q_H} {Q : q_R → q_H → Prop} {d mc ms : Nat} {x1 : Int} {x2 : Int} {x3 : Int} {x4 : Int} {p : Nat} (hp : p = 16 ∨ p = 29) (r80 : q_r σ 8 0 = 2) (r81 : q_r σ 8 1 = p) (hE : q_E σ) (h : (J ω m_Pr_addStep d 0 0 0 0 0 [(0, .ref p), (1, .int (zI x1)), (2, .int (zI x2)), (3, .int (zI x3))] [] σ (q_ki (fun v τ => J ω m_Pa_simple (d + 1) mc ms 0 0 140 [(0, .ref 8), (4, .int (zI x4))] [.int (zI v)] τ Q)))) : J ω m_Pa_simple (d + 1) mc ms 0 0 130 [(0, .ref 8), (1, .int (zI x1)), (2, .int (zI x2)), (3, .int (zI x3)), (4, .int (zI x4))] [] σ Q := by
  refine j_aload_n d_Pa_simple_130 0 rfl ?_
  refine j_getR p f_Pa_37 d_Pa_simple_131 (tg_8 hE) (q_okE hE (by decide)) (r81) (by omega) ?_
  refine j_iload_n d_Pa_simple_134 1 rfl ?_
  refine j_iload_n d_Pa_simple_135 2 rfl ?_
  refine j_iload_n d_Pa_simple_136 3 rfl ?_
  refine j_callV m_Pr_addStep [.int (zI x1), .int (zI x2), .int (zI x3)] [] d 0 0 cV_Pa_143 d_Pa_simple_137 rfl rfl (tY_p_0 hE hp) (q_okE hE (by omega)) (Nat.le_of_ble_eq_true rfl) (Nat.le_refl _) (Nat.le_of_ble_eq_true rfl) (Nat.zero_le _) (Nat.zero_le _) h (fun v τ h => ?_) (fun x τ h => ?_)
  · obtain ⟨v, hv, e1, h⟩ := h; cases e1; exact j_sel [0, 4] rfl h
  · obtain ⟨v, hv, e1, h⟩ := h; cases e1
set_option maxHeartbeats 2000000 in
theorem b_Pa_simple_140 {ω : q_W} {σ : q_H} {Q : q_R → q_H → Prop} {d mc ms : Nat} {x4 : Int} {y0 : Int} {p : Nat} (hp : p = 16 ∨ p = 29) (r80 : q_r σ 8 0 = 2) (r81 : q_r σ 8 1 = p) (hE : q_E σ) (h : (J ω m_Pa_finish d 0 0 0 0 0 [(0, .ref 8), (1, .int (zI (x4 + 8)))] [] σ (q_kv (fun τ => J ω m_Pa_simple (d + 1) mc ms 0 0 150 [] [] τ Q)))) : J ω m_Pa_simple (d + 1) mc ms 0 0 140 [(0, .ref 8), (4, .int (zI x4))] [.int (zI y0)] σ Q := by
  refine j_pop d_Pa_simple_140 rfl ?_
  refine j_aload_n d_Pa_simple_141 0 rfl ?_
  refine j_iload d_Pa_simple_142 1 rfl ?_
  refine j_bipush (v := zI 8) d_Pa_simple_144 (by decide) ?_
  refine zj_iadd (x4 + 8) (by omega) d_Pa_simple_146 ?_
  refine j_callV m_Pa_finish [.int (zI (x4 + 8))] [] d 0 0 cV_Pa_126 d_Pa_simple_147 rfl rfl (tg_8 hE) (q_okE hE (by decide)) (Nat.le_of_ble_eq_true rfl) (Nat.le_refl _) (Nat.le_of_ble_eq_true rfl) (Nat.zero_le _) (Nat.zero_le _) h (fun v τ h => ?_) (fun x τ h => ?_)
  · obtain ⟨e1, h⟩ := h; cases e1; exact j_sel [] rfl h
  · obtain ⟨e1, h⟩ := h; cases e1
set_option maxHeartbeats 2000000 in
theorem b_Pa_simple_150 {ω : q_W} {σ : q_H} {Q : q_R → q_H → Prop} {d mc ms : Nat}  {p : Nat} (hp : p = 16 ∨ p = 29) (r80 : q_r σ 8 0 = 2) (r81 : q_r σ 8 1 = p) (hE : q_E σ) (h : (Q (.inl (some (.int (zI 1)))) σ)) : J ω m_Pa_simple (d + 1) mc ms 0 0 150 [] [] σ Q := by
  refine j_iconst (v := zI 1) d_Pa_simple_150 (by decide) ?_
  exact zj_zret d_Pa_simple_151 rfl (by decide) (Nat.zero_le _) (Nat.zero_le _) h
set_option maxHeartbeats 2000000 in
theorem b_Pa_target_0 {ω : q_W} {σ : q_H} {Q : q_R → q_H → Prop} {d mc ms : Nat}  {p : Nat} (hp : p = 16 ∨ p = 29) (r80 : q_r σ 8 0 = 2) (r81 : q_r σ 8 1 = p) (hE : q_E σ) (h : (0 ≤ (z σ 2 8) ∧ (z σ 2 8) < 4097) ∧ (J ω m_Pr_find d 0 0 0 0 0 [(0, .ref p), (1, .long (q_l σ 6 (z σ 2 8).toNat))] [] σ (q_ki (fun v τ => J ω m_Pa_target (d + 1) mc ms 0 0 14 [(0, .ref 8)] [.int (zI v)] τ Q)))) : J ω m_Pa_target (d + 1) mc ms 0 0 0 [(0, .ref 8)] [] σ Q := by
  refine j_aload_n d_Pa_target_0 0 rfl ?_
  refine j_getR p f_Pa_37 d_Pa_target_1 (tg_8 hE) (q_okE hE (by decide)) (r81) (by omega) ?_
  refine j_aload_n d_Pa_target_4 0 rfl ?_
  refine j_getR 2 f_Pa_33 d_Pa_target_5 (tg_8 hE) (q_okE hE (by decide)) (r80) (by decide) ?_
  obtain ⟨c1, h⟩ := h
  refine j_callV m_Sc_name [] [.ref p] 0 0 0 cV_Pa_91 d_Pa_target_8 rfl rfl (tg_2 hE) (q_okE hE (by decide)) (Nat.le_of_ble_eq_true rfl) (Nat.succ_le_succ (Nat.zero_le _)) (Nat.le_of_ble_eq_true rfl) (Nat.zero_le _) (Nat.zero_le _) (c_Sc_name hE c1 (q_z _ _ _) (rfl)) (fun v τ h => ?_) (fun x τ h => absurd h.1 (by simp))
  obtain ⟨e1, e2⟩ := h; cases e1; rw [e2]
  refine j_callV m_Pr_find [.long (q_l σ 6 (z σ 2 8).toNat)] [] d 0 0 cV_Pa_102 d_Pa_target_11 rfl rfl (tY_p_0 hE hp) (q_okE hE (by omega)) (Nat.le_of_ble_eq_true rfl) (Nat.le_refl _) (Nat.le_of_ble_eq_true rfl) (Nat.zero_le _) (Nat.zero_le _) h (fun v τ h => ?_) (fun x τ h => ?_)
  · obtain ⟨v, hv, e1, h⟩ := h; cases e1; exact j_sel [0] rfl h
  · obtain ⟨v, hv, e1, h⟩ := h; cases e1
set_option maxHeartbeats 2000000 in
theorem b_Pa_target_14 {ω : q_W} {σ : q_H} {Q : q_R → q_H → Prop} {d mc ms : Nat} {y0 : Int} {p : Nat} (hp : p = 16 ∨ p = 29) (r80 : q_r σ 8 0 = 2) (r81 : q_r σ 8 1 = p) (hE : q_E σ) (h : inR y0 ∧ q_imp (y0 ≠ (-1)) (q_imp (y0 ≥ 12) (inR (y0 - 12) ∧ (Q (.inl (some (.int (zI (max 0 (y0 - 12)))))) σ)) ∧ q_imp (y0 < 12) ((0 ≤ (z σ 2 8) ∧ (z σ 2 8) < 4097) ∧ (J ω m_Pr_note d 0 0 0 0 0 [(0, .ref p), (1, .int (zI 4)), (2, .int (zI (z σ 5 (z σ 2 8).toNat)))] [] σ (q_kv (fun τ => J ω m_Pa_target (d + 1) mc ms 0 0 59 [(1, .int (zI y0))] [] τ Q))))) ∧ q_imp (y0 = (-1)) ((0 ≤ (z σ 2 8) ∧ (z σ 2 8) < 4097) ∧ (J ω m_Pr_note d 0 0 0 0 0 [(0, .ref p), (1, .int (zI 2)), (2, .int (zI (z σ 5 (z σ 2 8).toNat)))] [] σ (q_kv (fun τ => J ω m_Pa_target (d + 1) mc ms 0 0 35 [(1, .int (zI y0))] [] τ Q))))) : J ω m_Pa_target (d + 1) mc ms 0 0 14 [(0, .ref 8)] [.int (zI y0)] σ Q := by
  refine j_istore_n (L' := [(1, .int (zI y0)), (0, .ref 8)]) d_Pa_target_14 (by decide) rfl ?_
  refine j_iload_n d_Pa_target_15 0 rfl ?_
  refine j_iconst (v := zI (-1)) d_Pa_target_16 (by decide) ?_
  obtain ⟨r2, h⟩ := h
  obtain ⟨h1, h2⟩ := h
  refine zj_icmp_ne 38 d_Pa_target_17 (by decide) r2 ⟨by decide, by decide⟩ (fun k3 => ?_) (fun k3 => ?_)
  · have h := h1 k3
    refine j_iload_n d_Pa_target_38 0 rfl ?_
    refine j_bipush (v := zI 12) d_Pa_target_39 (by decide) ?_
    obtain ⟨h1, h2⟩ := h
    refine zj_icmp_ge 59 d_Pa_target_41 (by decide) r2 ⟨by decide, by decide⟩ (fun k4 => ?_) (fun k4 => ?_)
    · have h := h1 k4
      refine j_iconst (v := zI 0) d_Pa_target_59 (by decide) ?_
      refine j_iload_n d_Pa_target_60 0 rfl ?_
      refine j_bipush (v := zI 12) d_Pa_target_61 (by decide) ?_
      refine zj_isub (y0 - 12) (by omega) d_Pa_target_63 ?_
      obtain ⟨r5, h⟩ := h
      refine zj_max (List.mem_of_getElem? (i := 876) (by decide +kernel)) d_Pa_target_64 (Nat.succ_le_succ (Nat.zero_le _)) (Nat.le_of_ble_eq_true rfl) (Nat.zero_le _) (Nat.zero_le _) ⟨by decide, by decide⟩ r5 ?_
      exact zj_iret d_Pa_target_67 rfl (Nat.zero_le _) (Nat.zero_le _) h
    · have h := h2 k4
      refine j_aload_n d_Pa_target_44 1 rfl ?_
      refine j_getR p f_Pa_37 d_Pa_target_45 (tg_8 hE) (q_okE hE (by decide)) (r81) (by omega) ?_
      refine j_iconst (v := zI 4) d_Pa_target_48 (by decide) ?_
      refine j_aload_n d_Pa_target_49 1 rfl ?_
      refine j_getR 2 f_Pa_33 d_Pa_target_50 (tg_8 hE) (q_okE hE (by decide)) (r80) (by decide) ?_
      obtain ⟨c6, h⟩ := h
      refine j_callV m_Sc_start [] [.int (zI 4), .ref p] 0 0 0 cV_Pa_56 d_Pa_target_53 rfl rfl (tg_2 hE) (q_okE hE (by decide)) (Nat.le_of_ble_eq_true rfl) (Nat.succ_le_succ (Nat.zero_le _)) (Nat.le_of_ble_eq_true rfl) (Nat.zero_le _) (Nat.zero_le _) (c_Sc_start hE c6 (q_z _ _ _) (q_z _ _ _)) (fun v τ h => ?_) (fun x τ h => absurd h.1 (by simp))
      obtain ⟨e1, e2⟩ := h; cases e1; rw [e2]
      refine j_callV m_Pr_note [.int (zI 4), .int (zI (z σ 5 (z σ 2 8).toNat))] [] d 0 0 cV_Pa_71 d_Pa_target_56 rfl rfl (tY_p_0 hE hp) (q_okE hE (by omega)) (Nat.le_of_ble_eq_true rfl) (Nat.le_refl _) (Nat.le_of_ble_eq_true rfl) (Nat.zero_le _) (Nat.zero_le _) h (fun v τ h => ?_) (fun x τ h => ?_)
      · obtain ⟨e1, h⟩ := h; cases e1; exact j_sel [0] rfl h
      · obtain ⟨e1, h⟩ := h; cases e1
  · have h := h2 k3
    refine j_aload_n d_Pa_target_20 1 rfl ?_
    refine j_getR p f_Pa_37 d_Pa_target_21 (tg_8 hE) (q_okE hE (by decide)) (r81) (by omega) ?_
    refine j_iconst (v := zI 2) d_Pa_target_24 (by decide) ?_
    refine j_aload_n d_Pa_target_25 1 rfl ?_
    refine j_getR 2 f_Pa_33 d_Pa_target_26 (tg_8 hE) (q_okE hE (by decide)) (r80) (by decide) ?_
    obtain ⟨c7, h⟩ := h
    refine j_callV m_Sc_start [] [.int (zI 2), .ref p] 0 0 0 cV_Pa_56 d_Pa_target_29 rfl rfl (tg_2 hE) (q_okE hE (by decide)) (Nat.le_of_ble_eq_true rfl) (Nat.succ_le_succ (Nat.zero_le _)) (Nat.le_of_ble_eq_true rfl) (Nat.zero_le _) (Nat.zero_le _) (c_Sc_start hE c7 (q_z _ _ _) (q_z _ _ _)) (fun v τ h => ?_) (fun x τ h => absurd h.1 (by simp))
    obtain ⟨e1, e2⟩ := h; cases e1; rw [e2]
    refine j_callV m_Pr_note [.int (zI 2), .int (zI (z σ 5 (z σ 2 8).toNat))] [] d 0 0 cV_Pa_71 d_Pa_target_32 rfl rfl (tY_p_0 hE hp) (q_okE hE (by omega)) (Nat.le_of_ble_eq_true rfl) (Nat.le_refl _) (Nat.le_of_ble_eq_true rfl) (Nat.zero_le _) (Nat.zero_le _) h (fun v τ h => ?_) (fun x τ h => ?_)
    · obtain ⟨e1, h⟩ := h; cases e1; exact j_sel [0] rfl h
    · obtain ⟨e1, h⟩ := h; cases e1
set_option maxHeartbeats 2000000 in
theorem b_Pa_target_59 {ω : q_W} {σ : q_H} {Q : q_R → q_H → Prop} {d mc ms : Nat} {x1 : Int} {p : Nat} (hp : p = 16 ∨ p = 29) (r80 : q_r σ 8 0 = 2) (r81 : q_r σ 8 1 = p) (hE : q_E σ) (h : inR (x1 - 12) ∧ (Q (.inl (some (.int (zI (max 0 (x1 - 12)))))) σ)) : J ω m_Pa_target (d + 1) mc ms 0 0 59 [(1, .int (zI x1))] [] σ Q := by
  refine j_iconst (v := zI 0) d_Pa_target_59 (by decide) ?_
  refine j_iload_n d_Pa_target_60 0 rfl ?_
  refine j_bipush (v := zI 12) d_Pa_target_61 (by decide) ?_
  refine zj_isub (x1 - 12) (by omega) d_Pa_target_63 ?_
  obtain ⟨r8, h⟩ := h
  refine zj_max (List.mem_of_getElem? (i := 876) (by decide +kernel)) d_Pa_target_64 (Nat.succ_le_succ (Nat.zero_le _)) (Nat.le_of_ble_eq_true rfl) (Nat.zero_le _) (Nat.zero_le _) ⟨by decide, by decide⟩ r8 ?_
  exact zj_iret d_Pa_target_67 rfl (Nat.zero_le _) (Nat.zero_le _) h
set_option maxHeartbeats 2000000 in
theorem b_Pa_target_35 {ω : q_W} {σ : q_H} {Q : q_R → q_H → Prop} {d mc ms : Nat} {x1 : Int} {p : Nat} (hp : p = 16 ∨ p = 29) (r80 : q_r σ 8 0 = 2) (r81 : q_r σ 8 1 = p) (hE : q_E σ) (h : inR (x1 - 12) ∧ (Q (.inl (some (.int (zI (max 0 (x1 - 12)))))) σ)) : J ω m_Pa_target (d + 1) mc ms 0 0 35 [(1, .int (zI x1))] [] σ Q := by
  refine j_goto 59 d_Pa_target_35 (by decide) ?_
  refine j_iconst (v := zI 0) d_Pa_target_59 (by decide) ?_
  refine j_iload_n d_Pa_target_60 0 rfl ?_
  refine j_bipush (v := zI 12) d_Pa_target_61 (by decide) ?_
  refine zj_isub (x1 - 12) (by omega) d_Pa_target_63 ?_
  obtain ⟨r9, h⟩ := h
  refine zj_max (List.mem_of_getElem? (i := 876) (by decide +kernel)) d_Pa_target_64 (Nat.succ_le_succ (Nat.zero_le _)) (Nat.le_of_ble_eq_true rfl) (Nat.zero_le _) (Nat.zero_le _) ⟨by decide, by decide⟩ r9 ?_
  exact zj_iret d_Pa_target_67 rfl (Nat.zero_le _) (Nat.zero_le _) h
set_option maxHeartbeats 2000000 in
theorem b_Pa_expression_0 {ω : q_W} {σ : q_H} {Q : q_R → q_H → Prop} {d mc ms : Nat} {x1 : Int} {p : Nat} (hp : p = 16 ∨ p = 29) (r80 : q_r σ 8 0 = 2) (r81 : q_r σ 8 1 = p) (hE : q_E σ) (h : (J ω m_Pa_operand d 0 0 0 0 0 [(0, .ref 8)] [] (zs (zs (zs (zs σ 8 13 x1) 8 10 0) 8 12 0) 8 14 0) (q_ki (fun v τ => J ω m_Pa_expression (d + 1) mc ms 0 0 24 [(0, .ref 8)] [.int (zI v)] τ Q)))) : J ω m_Pa_expression (d + 1) mc ms 0 0 0 [(0, .ref 8), (1, .int (zI x1))] [] σ Q := by
  refine j_aload_n d_Pa_expression_0 0 rfl ?_
  refine j_iload_n d_Pa_expression_1 1 rfl ?_
  refine zj_putI (g_Pa_174 _) d_Pa_expression_2 (tg_8 hE) (q_okE hE (by decide)) ?_
  refine j_aload_n d_Pa_expression_5 0 rfl ?_
  refine j_iconst (v := zI 0) d_Pa_expression_6 (by decide) ?_
  refine zj_putI (g_Pa_177 _) d_Pa_expression_7 (tg_8 (zs_E hE)) (q_okE (zs_E hE) (by decide)) ?_
  refine j_aload_n d_Pa_expression_10 0 rfl ?_
  refine j_iconst (v := zI 0) d_Pa_expression_11 (by decide) ?_
  refine zj_putI (g_Pa_180 _) d_Pa_expression_12 (tg_8 (zs_E (zs_E hE))) (q_okE (zs_E (zs_E hE)) (by decide)) ?_
  refine j_aload_n d_Pa_expression_15 0 rfl ?_
  refine j_iconst (v := zI 0) d_Pa_expression_16 (by decide) ?_
  refine zj_putI (g_Pa_183 _) d_Pa_expression_17 (tg_8 (zs_E (zs_E (zs_E hE)))) (q_okE (zs_E (zs_E (zs_E hE))) (by decide)) ?_
  refine j_aload_n d_Pa_expression_20 0 rfl ?_
  refine j_callV m_Pa_operand [] [] d 0 0 cV_Pa_184 d_Pa_expression_21 rfl rfl (tg_8 (zs_E (zs_E (zs_E (zs_E hE))))) (q_okE (zs_E (zs_E (zs_E (zs_E hE)))) (by decide)) (Nat.le_of_ble_eq_true rfl) (Nat.le_refl _) (Nat.le_of_ble_eq_true rfl) (Nat.zero_le _) (Nat.zero_le _) h (fun v τ h => ?_) (fun x τ h => ?_)
  · obtain ⟨v, hv, e1, h⟩ := h; cases e1; exact j_sel [0] rfl h
  · obtain ⟨v, hv, e1, h⟩ := h; cases e1
set_option maxHeartbeats 2000000 in
theorem b_Pa_expression_24 {ω : q_W} {σ : q_H} {Q : q_R → q_H → Prop} {d mc ms : Nat} {y0 : Int} {p : Nat} (hp : p = 16 ∨ p = 29) (r80 : q_r σ 8 0 = 2) (r81 : q_r σ 8 1 = p) (hE : q_E σ) (h : (J ω m_Pa_expression (d + 1) mc ms 0 0 27 [(0, .ref 8), (2, .int (zI y0)), (3, .int (zI 0))] [] σ Q)) : J ω m_Pa_expression (d + 1) mc ms 0 0 24 [(0, .ref 8)] [.int (zI y0)] σ Q := by
  refine j_istore_n (L' := [(2, .int (zI y0)), (0, .ref 8)]) d_Pa_expression_24 (by decide) rfl ?_
  refine j_iconst (v := zI 0) d_Pa_expression_25 (by decide) ?_
  refine j_istore_n (L' := [(3, .int (zI 0)), (2, .int (zI y0)), (0, .ref 8)]) d_Pa_expression_26 (by decide) rfl ?_
  exact j_sel [2, 1, 0] rfl h
set_option maxHeartbeats 2000000 in
theorem b_Pa_expression_27 {ω : q_W} {σ : q_H} {Q : q_R → q_H → Prop} {d mc ms : Nat} {x2 : Int} {x3 : Int} {p : Nat} (hp : p = 16 ∨ p = 29) (r80 : q_r σ 8 0 = 2) (r81 : q_r σ 8 1 = p) (hE : q_E σ) (h : inR x3 ∧ q_imp (x3 ≥ 4096) ((J ω m_Pa_expression (d + 1) mc ms 0 0 56 [(0, .ref 8), (2, .int (zI x2))] [] σ Q)) ∧ q_imp (x3 < 4096) (inR x2 ∧ q_imp (x2 = 0) ((J ω m_Pa_expression (d + 1) mc ms 0 0 56 [(0, .ref 8), (2, .int (zI x2))] [] σ Q)) ∧ q_imp (x2 ≠ 0) ((J ω m_Pa_follow d 0 0 0 0 0 [(0, .ref 8)] [] σ (q_ki (fun v τ => J ω m_Pa_expression (d + 1) mc ms 0 0 42 [(0, .ref 8), (2, .int (zI x2)), (3, .int (zI x3))] [.int (zI v)] τ Q)))))) : J ω m_Pa_expression (d + 1) mc ms 0 0 27 [(0, .ref 8), (2, .int (zI x2)), (3, .int (zI x3))] [] σ Q := by
  refine j_iload_n d_Pa_expression_27 2 rfl ?_
  refine j_sipush (v := zI 4096) d_Pa_expression_28 (by decide) ?_
  obtain ⟨r1, h⟩ := h
  obtain ⟨h1, h2⟩ := h
  refine zj_icmp_ge 56 d_Pa_expression_31 (by decide) r1 ⟨by decide, by decide⟩ (fun k2 => ?_) (fun k2 => ?_)
  · have h := h1 k2
    exact j_sel [0, 1] rfl h
  · have h := h2 k2
    refine j_iload_n d_Pa_expression_34 1 rfl ?_
    obtain ⟨r3, h⟩ := h
    obtain ⟨h1, h2⟩ := h
    refine zj_if_eq 56 d_Pa_expression_35 (by decide) r3 (fun k4 => ?_) (fun k4 => ?_)
    · have h := h1 k4
      exact j_sel [0, 1] rfl h
    · have h := h2 k4
      refine j_aload_n d_Pa_expression_38 0 rfl ?_
      refine j_callV m_Pa_follow [] [] d 0 0 cV_Pa_187 d_Pa_expression_39 rfl rfl (tg_8 hE) (q_okE hE (by decide)) (Nat.le_of_ble_eq_true rfl) (Nat.le_refl _) (Nat.le_of_ble_eq_true rfl) (Nat.zero_le _) (Nat.zero_le _) h (fun v τ h => ?_) (fun x τ h => ?_)
      · obtain ⟨v, hv, e1, h⟩ := h; cases e1; exact j_sel [0, 1, 2] rfl h
      · obtain ⟨v, hv, e1, h⟩ := h; cases e1
set_option maxHeartbeats 2000000 in
theorem b_Pa_expression_56 {ω : q_W} {σ : q_H} {Q : q_R → q_H → Prop} {d mc ms : Nat} {x2 : Int} {p : Nat} (hp : p = 16 ∨ p = 29) (r80 : q_r σ 8 0 = 2) (r81 : q_r σ 8 1 = p) (hE : q_E σ) (h : inR x2 ∧ q_imp (x2 = 0) ((Q (.inl (some (.int (zI (-1))))) σ)) ∧ q_imp (x2 ≠ 0) (q_imp ((z σ 8 10) ≠ 0) ((Q (.inl (some (.int (zI (-1))))) σ)) ∧ q_imp ((z σ 8 10) = 0) ((Q (.inl (some (.int (zI (z σ 8 14))))) σ)))) : J ω m_Pa_expression (d + 1) mc ms 0 0 56 [(0, .ref 8), (2, .int (zI x2))] [] σ Q := by
  refine j_iload_n d_Pa_expression_56 1 rfl ?_
  obtain ⟨r5, h⟩ := h
  obtain ⟨h1, h2⟩ := h
  refine zj_if_eq 74 d_Pa_expression_57 (by decide) r5 (fun k6 => ?_) (fun k6 => ?_)
  · have h := h1 k6
    refine j_iconst (v := zI (-1)) d_Pa_expression_74 (by decide) ?_
    exact zj_iret d_Pa_expression_75 rfl (Nat.zero_le _) (Nat.zero_le _) h
  · have h := h2 k6
    refine j_aload_n d_Pa_expression_60 0 rfl ?_
    refine zj_getI (z σ 8 10) f_Pa_177 d_Pa_expression_61 (tg_8 hE) (q_okE hE (by decide)) (q_z _ _ _) ?_
    obtain ⟨h1, h2⟩ := h
    refine zj_if_ne 74 d_Pa_expression_64 (by decide) (z_R _ _ _) (fun k7 => ?_) (fun k7 => ?_)
    · have h := h1 k7
      refine j_iconst (v := zI (-1)) d_Pa_expression_74 (by decide) ?_
      exact zj_iret d_Pa_expression_75 rfl (Nat.zero_le _) (Nat.zero_le _) h
    · have h := h2 k7
      refine j_aload_n d_Pa_expression_67 0 rfl ?_
      refine zj_getI (z σ 8 14) f_Pa_183 d_Pa_expression_68 (tg_8 hE) (q_okE hE (by decide)) (q_z _ _ _) ?_
      refine j_goto 75 d_Pa_expression_71 (by decide) ?_
      exact zj_iret d_Pa_expression_75 rfl (Nat.zero_le _) (Nat.zero_le _) h
set_option maxHeartbeats 2000000 in
theorem b_Pa_expression_42 {ω : q_W} {σ : q_H} {Q : q_R → q_H → Prop} {d mc ms : Nat} {x2 : Int} {x3 : Int} {y0 : Int} {p : Nat} (hp : p = 16 ∨ p = 29) (r80 : q_r σ 8 0 = 2) (r81 : q_r σ 8 1 = p) (hE : q_E σ) (h : inR y0 ∧ q_imp (y0 = 0) ((J ω m_Pa_expression (d + 1) mc ms 0 0 56 [(0, .ref 8), (2, .int (zI x2))] [] σ Q)) ∧ q_imp (y0 ≠ 0) ((J ω m_Pa_operand d 0 0 0 0 0 [(0, .ref 8)] [] σ (q_ki (fun v τ => J ω m_Pa_expression (d + 1) mc ms 0 0 49 [(0, .ref 8), (3, .int (zI x3))] [.int (zI v)] τ Q))))) : J ω m_Pa_expression (d + 1) mc ms 0 0 42 [(0, .ref 8), (2, .int (zI x2)), (3, .int (zI x3))] [.int (zI y0)] σ Q := by
  obtain ⟨r8, h⟩ := h
  obtain ⟨h1, h2⟩ := h
  refine zj_if_eq 56 d_Pa_expression_42 (by decide) r8 (fun k9 => ?_) (fun k9 => ?_)
  · have h := h1 k9
    exact j_sel [0, 1] rfl h
  · have h := h2 k9
    refine j_aload_n d_Pa_expression_45 0 rfl ?_
    refine j_callV m_Pa_operand [] [] d 0 0 cV_Pa_184 d_Pa_expression_46 rfl rfl (tg_8 hE) (q_okE hE (by decide)) (Nat.le_of_ble_eq_true rfl) (Nat.le_refl _) (Nat.le_of_ble_eq_true rfl) (Nat.zero_le _) (Nat.zero_le _) h (fun v τ h => ?_) (fun x τ h => ?_)
    · obtain ⟨v, hv, e1, h⟩ := h; cases e1; exact j_sel [0, 2] rfl h
    · obtain ⟨v, hv, e1, h⟩ := h; cases e1
set_option maxHeartbeats 2000000 in
theorem b_Pa_expression_49 {ω : q_W} {σ : q_H} {Q : q_R → q_H → Prop} {d mc ms : Nat} {x3 : Int} {y0 : Int} {p : Nat} (hp : p = 16 ∨ p = 29) (r80 : q_r σ 8 0 = 2) (r81 : q_r σ 8 1 = p) (hE : q_E σ) (h : (J ω m_Pa_expression (d + 1) mc ms 0 0 27 [(0, .ref 8), (2, .int (zI y0)), (3, .int (zI (x3 + 1)))] [] σ Q)) : J ω m_Pa_expression (d + 1) mc ms 0 0 49 [(0, .ref 8), (3, .int (zI x3))] [.int (zI y0)] σ Q := by
  refine j_istore_n (L' := [(2, .int (zI y0)), (0, .ref 8), (3, .int (zI x3))]) d_Pa_expression_49 (by decide) rfl ?_
  refine zj_iinc (L' := [(3, .int (zI (x3 + 1))), (2, .int (zI y0)), (0, .ref 8)]) (x3 + 1) d_Pa_expression_50 2 rfl (by omega) (by decide) rfl ?_
  refine j_goto 27 d_Pa_expression_53 (by decide) ?_
  exact j_sel [2, 1, 0] rfl h
set_option maxHeartbeats 2000000 in
theorem b_Pa_operand_0 {ω : q_W} {σ : q_H} {Q : q_R → q_H → Prop} {d mc ms : Nat}  {p : Nat} (hp : p = 16 ∨ p = 29) (r80 : q_r σ 8 0 = 2) (r81 : q_r σ 8 1 = p) (hE : q_E σ) (h : (J ω m_Pa_operand (d + 1) mc ms 0 0 2 [(0, .ref 8), (1, .int (zI 0))] [] σ Q)) : J ω m_Pa_operand (d + 1) mc ms 0 0 0 [(0, .ref 8)] [] σ Q := by
  refine j_iconst (v := zI 0) d_Pa_operand_0 (by decide) ?_
  refine j_istore_n (L' := [(1, .int (zI 0)), (0, .ref 8)]) d_Pa_operand_1 (by decide) rfl ?_
  exact j_sel [1, 0] rfl h
theorem o_Pa_operand_25 {x : Int} (cs15 : ¬ x = 15) (cs19 : ¬ x = 19) (cs20 : ¬ x = 20) (cs23 : ¬ x = 23) (cs30 : ¬ x = 30) (cs35 : ¬ x = 35) : ¬ 15 = x ∧ ¬ 19 = x ∧ ¬ 20 = x ∧ ¬ 23 = x ∧ ¬ 30 = x ∧ ¬ 35 = x := by omega
set_option maxHeartbeats 2000000 in
theorem b_Pa_operand_2 {ω : q_W} {σ : q_H} {Q : q_R → q_H → Prop} {d mc ms : Nat} {x1 : Int} {p : Nat} (hp : p = 16 ∨ p = 29) (r80 : q_r σ 8 0 = 2) (r81 : q_r σ 8 1 = p) (hE : q_E σ) (h : inR x1 ∧ q_imp (x1 > 4096) ((Q (.inl (some (.int (zI 0)))) σ)) ∧ q_imp (x1 ≤ 4096) (q_imp ((z σ 8 13) > 30) ((Q (.inl (some (.int (zI 0)))) σ)) ∧ q_imp ((z σ 8 13) ≤ 30) ((0 ≤ (z σ 2 8) ∧ (z σ 2 8) < 4097) ∧ q_imp ((z σ 4 (z σ 2 8).toNat) = 15) ((J ω m_Pa_deepen d 0 0 0 0 0 [(0, .ref 8), (1, .int (zI 21))] [] σ (q_kv (fun τ => J ω m_Pa_operand (d + 1) mc ms 0 0 149 [(0, .ref 8), (1, .int (zI x1))] [] τ Q)))) ∧ q_imp ((z σ 4 (z σ 2 8).toNat) = 19 ∨ (z σ 4 (z σ 2 8).toNat) = 20 ∨ (z σ 4 (z σ 2 8).toNat) = 35) ((J ω m_Pa_deepen d 0 0 0 0 0 [(0, .ref 8), (1, .int (zI (z σ 4 (z σ 2 8).toNat)))] [] σ (q_kv (fun τ => J ω m_Pa_operand (d + 1) mc ms 0 0 140 [(0, .ref 8), (1, .int (zI x1))] [] τ Q)))) ∧ q_imp ((z σ 4 (z σ 2 8).toNat) = 23) ((J ω m_Pa_leastWidth d 0 0 0 0 0 [(0, .int (zI (zL (q_l σ 6 (z σ 2 8).toNat))))] [] σ (q_ki (fun v τ => J ω m_Pa_operand (d + 1) mc ms 0 0 117 [(0, .ref 8)] [.int (zI v), .int (zI (zL (q_l σ 6 (z σ 2 8).toNat))), .int (zI 23), .ref 8] τ Q)))) ∧ q_imp ((z σ 4 (z σ 2 8).toNat) = 30) ((J ω m_Pa_named d 0 0 0 0 0 [(0, .ref 8)] [] σ (q_kv (fun τ => J ω m_Pa_operand (d + 1) mc ms 0 0 88 [(0, .ref 8)] [] τ Q)))) ∧ q_imp ((z σ 4 (z σ 2 8).toNat) ≠ 15 ∧ (z σ 4 (z σ 2 8).toNat) ≠ 19 ∧ (z σ 4 (z σ 2 8).toNat) ≠ 20 ∧ (z σ 4 (z σ 2 8).toNat) ≠ 23 ∧ (z σ 4 (z σ 2 8).toNat) ≠ 30 ∧ (z σ 4 (z σ 2 8).toNat) ≠ 35) ((Q (.inl (some (.int (zI 0)))) σ))))) : J ω m_Pa_operand (d + 1) mc ms 0 0 2 [(0, .ref 8), (1, .int (zI x1))] [] σ Q := by
  refine j_iload_n d_Pa_operand_2 1 rfl ?_
  refine j_sipush (v := zI 4096) d_Pa_operand_3 (by decide) ?_
  obtain ⟨r1, h⟩ := h
  obtain ⟨h1, h2⟩ := h
  refine zj_icmp_gt 160 d_Pa_operand_6 (by decide) r1 ⟨by decide, by decide⟩ (fun k2 => ?_) (fun k2 => ?_)
  · have h := h1 k2
    refine j_iconst (v := zI 0) d_Pa_operand_160 (by decide) ?_
    exact zj_zret d_Pa_operand_161 rfl (by decide) (Nat.zero_le _) (Nat.zero_le _) h
  · have h := h2 k2
    refine j_aload_n d_Pa_operand_9 0 rfl ?_
    refine zj_getI (z σ 8 13) f_Pa_174 d_Pa_operand_10 (tg_8 hE) (q_okE hE (by decide)) (q_z _ _ _) ?_
    refine j_bipush (v := zI 30) d_Pa_operand_13 (by decide) ?_
    obtain ⟨h1, h2⟩ := h
    refine zj_icmp_gt 160 d_Pa_operand_15 (by decide) (z_R _ _ _) ⟨by decide, by decide⟩ (fun k3 => ?_) (fun k3 => ?_)
    · have h := h1 k3
      refine j_iconst (v := zI 0) d_Pa_operand_160 (by decide) ?_
      exact zj_zret d_Pa_operand_161 rfl (by decide) (Nat.zero_le _) (Nat.zero_le _) h
    · have h := h2 k3
      refine j_aload_n d_Pa_operand_18 0 rfl ?_
      refine j_getR 2 f_Pa_33 d_Pa_operand_19 (tg_8 hE) (q_okE hE (by decide)) (r80) (by decide) ?_
      obtain ⟨c4, h⟩ := h
      refine j_callV m_Sc_kind [] [] 0 0 0 cV_Pa_75 d_Pa_operand_22 rfl rfl (tg_2 hE) (q_okE hE (by decide)) (Nat.le_of_ble_eq_true rfl) (Nat.succ_le_succ (Nat.zero_le _)) (Nat.le_of_ble_eq_true rfl) (Nat.zero_le _) (Nat.zero_le _) (c_Sc_kind hE c4 (q_z _ _ _) (q_z _ _ _)) (fun v τ h => ?_) (fun x τ h => absurd h.1 (by simp))
      obtain ⟨e1, e2⟩ := h; cases e1; rw [e2]
      obtain ⟨g143, g129, g97, g84, gD⟩ := h
      have jg143 : q_imp ((z σ 4 (z σ 2 8).toNat) = 15) (J ω m_Pa_operand (d + 1) mc ms 0 0 143 [(0, .ref 8), (1, .int (zI x1))] [] σ Q) := by
        intro c
        have h := g143 c
        refine j_aload_n d_Pa_operand_143 0 rfl ?_
        refine j_bipush (v := zI 21) d_Pa_operand_144 (by decide) ?_
        refine j_callV m_Pa_deepen [.int (zI 21)] [] d 0 0 cV_Pa_200 d_Pa_operand_146 rfl rfl (tg_8 hE) (q_okE hE (by decide)) (Nat.le_of_ble_eq_true rfl) (Nat.le_refl _) (Nat.le_of_ble_eq_true rfl) (Nat.zero_le _) (Nat.zero_le _) h (fun v τ h => ?_) (fun x τ h => ?_)
        · obtain ⟨e1, h⟩ := h; cases e1; exact j_sel [0, 1] rfl h
        · obtain ⟨e1, h⟩ := h; cases e1
      have jg129 : q_imp ((z σ 4 (z σ 2 8).toNat) = 19 ∨ (z σ 4 (z σ 2 8).toNat) = 20 ∨ (z σ 4 (z σ 2 8).toNat) = 35) (J ω m_Pa_operand (d + 1) mc ms 0 0 129 [(0, .ref 8), (1, .int (zI x1))] [] σ Q) := by
        intro c
        have h := g129 c
        refine j_aload_n d_Pa_operand_129 0 rfl ?_
        refine j_aload_n d_Pa_operand_130 0 rfl ?_
        refine j_getR 2 f_Pa_33 d_Pa_operand_131 (tg_8 hE) (q_okE hE (by decide)) (r80) (by decide) ?_
        refine j_callV m_Sc_kind [] [.ref 8] 0 0 0 cV_Pa_75 d_Pa_operand_134 rfl rfl (tg_2 hE) (q_okE hE (by decide)) (Nat.le_of_ble_eq_true rfl) (Nat.succ_le_succ (Nat.zero_le _)) (Nat.le_of_ble_eq_true rfl) (Nat.zero_le _) (Nat.zero_le _) (c_Sc_kind hE c4 (q_z _ _ _) (q_z _ _ _)) (fun v τ h => ?_) (fun x τ h => absurd h.1 (by simp))
        obtain ⟨e1, e2⟩ := h; cases e1; rw [e2]
        refine j_callV m_Pa_deepen [.int (zI (z σ 4 (z σ 2 8).toNat))] [] d 0 0 cV_Pa_200 d_Pa_operand_137 rfl rfl (tg_8 hE) (q_okE hE (by decide)) (Nat.le_of_ble_eq_true rfl) (Nat.le_refl _) (Nat.le_of_ble_eq_true rfl) (Nat.zero_le _) (Nat.zero_le _) h (fun v τ h => ?_) (fun x τ h => ?_)
        · obtain ⟨e1, h⟩ := h; cases e1; exact j_sel [0, 1] rfl h
        · obtain ⟨e1, h⟩ := h; cases e1
      have jg97 : q_imp ((z σ 4 (z σ 2 8).toNat) = 23) (J ω m_Pa_operand (d + 1) mc ms 0 0 97 [(0, .ref 8), (1, .int (zI x1))] [] σ Q) := by
        intro c
        have h := g97 c
        refine j_aload_n d_Pa_operand_97 0 rfl ?_
        refine j_bipush (v := zI 23) d_Pa_operand_98 (by decide) ?_
        refine j_aload_n d_Pa_operand_100 0 rfl ?_
        refine j_getR 2 f_Pa_33 d_Pa_operand_101 (tg_8 hE) (q_okE hE (by decide)) (r80) (by decide) ?_
        refine j_callV m_Sc_number [] [.int (zI 23), .ref 8] 0 0 0 cV_Pa_99 d_Pa_operand_104 rfl rfl (tg_2 hE) (q_okE hE (by decide)) (Nat.le_of_ble_eq_true rfl) (Nat.succ_le_succ (Nat.zero_le _)) (Nat.le_of_ble_eq_true rfl) (Nat.zero_le _) (Nat.zero_le _) (c_Sc_number hE c4 (q_z _ _ _) (rfl)) (fun v τ h => ?_) (fun x τ h => absurd h.1 (by simp))
        obtain ⟨e1, e2⟩ := h; cases e1; rw [e2]
        refine j_aload_n d_Pa_operand_107 0 rfl ?_
        refine j_getR 2 f_Pa_33 d_Pa_operand_108 (tg_8 hE) (q_okE hE (by decide)) (r80) (by decide) ?_
        refine j_callV m_Sc_number [] [.int (zI (zL (q_l σ 6 (z σ 2 8).toNat))), .int (zI 23), .ref 8] 0 0 0 cV_Pa_99 d_Pa_operand_111 rfl rfl (tg_2 hE) (q_okE hE (by decide)) (Nat.le_of_ble_eq_true rfl) (Nat.succ_le_succ (Nat.zero_le _)) (Nat.le_of_ble_eq_true rfl) (Nat.zero_le _) (Nat.zero_le _) (c_Sc_number hE c4 (q_z _ _ _) (rfl)) (fun v τ h => ?_) (fun x τ h => absurd h.1 (by simp))
        obtain ⟨e1, e2⟩ := h; cases e1; rw [e2]
        refine j_callS m_Pa_leastWidth [.int (zI (zL (q_l σ 6 (z σ 2 8).toNat)))] [.int (zI (zL (q_l σ 6 (z σ 2 8).toNat))), .int (zI 23), .ref 8] d 0 0 cS_Pa_193 d_Pa_operand_114 rfl rfl (Nat.le_of_ble_eq_true rfl) (Nat.le_refl _) (Nat.le_of_ble_eq_true rfl) (Nat.zero_le _) (Nat.zero_le _) h (fun v τ h => ?_) (fun x τ h => ?_)
        · obtain ⟨v, hv, e1, h⟩ := h; cases e1; exact j_sel [0] rfl h
        · obtain ⟨v, hv, e1, h⟩ := h; cases e1
      have jg84 : q_imp ((z σ 4 (z σ 2 8).toNat) = 30) (J ω m_Pa_operand (d + 1) mc ms 0 0 84 [(0, .ref 8), (1, .int (zI x1))] [] σ Q) := by
        intro c
        have h := g84 c
        refine j_aload_n d_Pa_operand_84 0 rfl ?_
        refine j_callV m_Pa_named [] [] d 0 0 cV_Pa_190 d_Pa_operand_85 rfl rfl (tg_8 hE) (q_okE hE (by decide)) (Nat.le_of_ble_eq_true rfl) (Nat.le_refl _) (Nat.le_of_ble_eq_true rfl) (Nat.zero_le _) (Nat.zero_le _) h (fun v τ h => ?_) (fun x τ h => ?_)
        · obtain ⟨e1, h⟩ := h; cases e1; exact j_sel [0] rfl h
        · obtain ⟨e1, h⟩ := h; cases e1
      have jgD : q_imp ((z σ 4 (z σ 2 8).toNat) ≠ 15 ∧ (z σ 4 (z σ 2 8).toNat) ≠ 19 ∧ (z σ 4 (z σ 2 8).toNat) ≠ 20 ∧ (z σ 4 (z σ 2 8).toNat) ≠ 23 ∧ (z σ 4 (z σ 2 8).toNat) ≠ 30 ∧ (z σ 4 (z σ 2 8).toNat) ≠ 35) (J ω m_Pa_operand (d + 1) mc ms 0 0 152 [(0, .ref 8), (1, .int (zI x1))] [] σ Q) := by
        intro c
        have h := gD c
        refine j_iconst (v := zI 0) d_Pa_operand_152 (by decide) ?_
        exact zj_zret d_Pa_operand_153 rfl (by decide) (Nat.zero_le _) (Nat.zero_le _) h
      by_cases cs15 : (z σ 4 (z σ 2 8).toNat) = 15
      · exact j_topE (v := zI 15) (by rw [cs15]) (j_lookup 143 d_Pa_operand_25 (by decide) (by rfl) (by decide) (jg143 cs15))
      by_cases cs19 : (z σ 4 (z σ 2 8).toNat) = 19
      · exact j_topE (v := zI 19) (by rw [cs19]) (j_lookup 129 d_Pa_operand_25 (by decide) (by rfl) (by decide) (jg129 (Or.inl cs19)))
      by_cases cs20 : (z σ 4 (z σ 2 8).toNat) = 20
      · exact j_topE (v := zI 20) (by rw [cs20]) (j_lookup 129 d_Pa_operand_25 (by decide) (by rfl) (by decide) (jg129 (Or.inr (Or.inl cs20))))
      by_cases cs23 : (z σ 4 (z σ 2 8).toNat) = 23
      · exact j_topE (v := zI 23) (by rw [cs23]) (j_lookup 97 d_Pa_operand_25 (by decide) (by rfl) (by decide) (jg97 cs23))
      by_cases cs30 : (z σ 4 (z σ 2 8).toNat) = 30
      · exact j_topE (v := zI 30) (by rw [cs30]) (j_lookup 84 d_Pa_operand_25 (by decide) (by rfl) (by decide) (jg84 cs30))
      by_cases cs35 : (z σ 4 (z σ 2 8).toNat) = 35
      · exact j_topE (v := zI 35) (by rw [cs35]) (j_lookup 129 d_Pa_operand_25 (by decide) (by rfl) (by decide) (jg129 (Or.inr (Or.inr (cs35)))))
      exact zj_lookd 152 d_Pa_operand_25 (by decide) (z_R _ _ _) (by simp; exact o_Pa_operand_25 cs15 cs19 cs20 cs23 cs30 cs35) (by decide) (jgD ⟨cs15, cs19, cs20, cs23, cs30, cs35⟩)
set_option maxHeartbeats 2000000 in
theorem b_Pa_operand_149 {ω : q_W} {σ : q_H} {Q : q_R → q_H → Prop} {d mc ms : Nat} {x1 : Int} {p : Nat} (hp : p = 16 ∨ p = 29) (r80 : q_r σ 8 0 = 2) (r81 : q_r σ 8 1 = p) (hE : q_E σ) (h : (J ω m_Pa_operand (d + 1) mc ms 0 0 2 [(0, .ref 8), (1, .int (zI (x1 + 1)))] [] σ Q)) : J ω m_Pa_operand (d + 1) mc ms 0 0 149 [(0, .ref 8), (1, .int (zI x1))] [] σ Q := by
  refine j_goto 154 d_Pa_operand_149 (by decide) ?_
  refine zj_iinc (L' := [(1, .int (zI (x1 + 1))), (0, .ref 8)]) (x1 + 1) d_Pa_operand_154 1 rfl (by omega) (by decide) rfl ?_
  refine j_goto 2 d_Pa_operand_157 (by decide) ?_
  exact j_sel [1, 0] rfl h
set_option maxHeartbeats 2000000 in
theorem b_Pa_operand_140 {ω : q_W} {σ : q_H} {Q : q_R → q_H → Prop} {d mc ms : Nat} {x1 : Int} {p : Nat} (hp : p = 16 ∨ p = 29) (r80 : q_r σ 8 0 = 2) (r81 : q_r σ 8 1 = p) (hE : q_E σ) (h : (J ω m_Pa_operand (d + 1) mc ms 0 0 2 [(0, .ref 8), (1, .int (zI (x1 + 1)))] [] σ Q)) : J ω m_Pa_operand (d + 1) mc ms 0 0 140 [(0, .ref 8), (1, .int (zI x1))] [] σ Q := by
  refine j_goto 154 d_Pa_operand_140 (by decide) ?_
  refine zj_iinc (L' := [(1, .int (zI (x1 + 1))), (0, .ref 8)]) (x1 + 1) d_Pa_operand_154 1 rfl (by omega) (by decide) rfl ?_
  refine j_goto 2 d_Pa_operand_157 (by decide) ?_
  exact j_sel [1, 0] rfl h
set_option maxHeartbeats 2000000 in
theorem b_Pa_operand_117 {ω : q_W} {σ : q_H} {Q : q_R → q_H → Prop} {d mc ms : Nat} {y0 : Int} {y1 : Int} {y2 : Int} {p : Nat} (hp : p = 16 ∨ p = 29) (r80 : q_r σ 8 0 = 2) (r81 : q_r σ 8 1 = p) (hE : q_E σ) (h : (J ω m_Pa_push d 0 0 0 0 0 [(0, .ref 8), (1, .int (zI y2)), (2, .int (zI y1)), (3, .int (zI y0))] [] σ (q_kv (fun τ => J ω m_Pa_operand (d + 1) mc ms 0 0 120 [(0, .ref 8)] [] τ Q)))) : J ω m_Pa_operand (d + 1) mc ms 0 0 117 [(0, .ref 8)] [.int (zI y0), .int (zI y1), .int (zI y2), .ref 8] σ Q := by
  refine j_callV m_Pa_push [.int (zI y2), .int (zI y1), .int (zI y0)] [] d 0 0 cV_Pa_196 d_Pa_operand_117 rfl rfl (tg_8 hE) (q_okE hE (by decide)) (Nat.le_of_ble_eq_true rfl) (Nat.le_refl _) (Nat.le_of_ble_eq_true rfl) (Nat.zero_le _) (Nat.zero_le _) h (fun v τ h => ?_) (fun x τ h => ?_)
  · obtain ⟨e1, h⟩ := h; cases e1; exact j_sel [0] rfl h
  · obtain ⟨e1, h⟩ := h; cases e1
set_option maxHeartbeats 2000000 in
theorem b_Pa_operand_88 {ω : q_W} {σ : q_H} {Q : q_R → q_H → Prop} {d mc ms : Nat}  {p : Nat} (hp : p = 16 ∨ p = 29) (r80 : q_r σ 8 0 = 2) (r81 : q_r σ 8 1 = p) (hE : q_E σ) (h : (J ω m_Sc_advance d 0 0 0 0 0 [(0, .ref 2)] [] σ (q_kv (fun τ => J ω m_Pa_operand (d + 1) mc ms 0 0 95 [] [] τ Q)))) : J ω m_Pa_operand (d + 1) mc ms 0 0 88 [(0, .ref 8)] [] σ Q := by
  refine j_aload_n d_Pa_operand_88 0 rfl ?_
  refine j_getR 2 f_Pa_33 d_Pa_operand_89 (tg_8 hE) (q_okE hE (by decide)) (r80) (by decide) ?_
  refine j_callV m_Sc_advance [] [] d 0 0 cV_Pa_78 d_Pa_operand_92 rfl rfl (tg_2 hE) (q_okE hE (by decide)) (Nat.le_of_ble_eq_true rfl) (Nat.le_refl _) (Nat.le_of_ble_eq_true rfl) (Nat.zero_le _) (Nat.zero_le _) h (fun v τ h => ?_) (fun x τ h => ?_)
  · obtain ⟨e1, h⟩ := h; cases e1; exact j_sel [] rfl h
  · obtain ⟨e1, h⟩ := h; cases e1
set_option maxHeartbeats 2000000 in
theorem b_Pa_operand_120 {ω : q_W} {σ : q_H} {Q : q_R → q_H → Prop} {d mc ms : Nat}  {p : Nat} (hp : p = 16 ∨ p = 29) (r80 : q_r σ 8 0 = 2) (r81 : q_r σ 8 1 = p) (hE : q_E σ) (h : (J ω m_Sc_advance d 0 0 0 0 0 [(0, .ref 2)] [] σ (q_kv (fun τ => J ω m_Pa_operand (d + 1) mc ms 0 0 127 [] [] τ Q)))) : J ω m_Pa_operand (d + 1) mc ms 0 0 120 [(0, .ref 8)] [] σ Q := by
  refine j_aload_n d_Pa_operand_120 0 rfl ?_
  refine j_getR 2 f_Pa_33 d_Pa_operand_121 (tg_8 hE) (q_okE hE (by decide)) (r80) (by decide) ?_
  refine j_callV m_Sc_advance [] [] d 0 0 cV_Pa_78 d_Pa_operand_124 rfl rfl (tg_2 hE) (q_okE hE (by decide)) (Nat.le_of_ble_eq_true rfl) (Nat.le_refl _) (Nat.le_of_ble_eq_true rfl) (Nat.zero_le _) (Nat.zero_le _) h (fun v τ h => ?_) (fun x τ h => ?_)
  · obtain ⟨e1, h⟩ := h; cases e1; exact j_sel [] rfl h
  · obtain ⟨e1, h⟩ := h; cases e1
set_option maxHeartbeats 2000000 in
theorem b_Pa_operand_95 {ω : q_W} {σ : q_H} {Q : q_R → q_H → Prop} {d mc ms : Nat}  {p : Nat} (hp : p = 16 ∨ p = 29) (r80 : q_r σ 8 0 = 2) (r81 : q_r σ 8 1 = p) (hE : q_E σ) (h : (Q (.inl (some (.int (zI 1)))) σ)) : J ω m_Pa_operand (d + 1) mc ms 0 0 95 [] [] σ Q := by
  refine j_iconst (v := zI 1) d_Pa_operand_95 (by decide) ?_
  exact zj_zret d_Pa_operand_96 rfl (by decide) (Nat.zero_le _) (Nat.zero_le _) h
set_option maxHeartbeats 2000000 in
theorem b_Pa_operand_127 {ω : q_W} {σ : q_H} {Q : q_R → q_H → Prop} {d mc ms : Nat}  {p : Nat} (hp : p = 16 ∨ p = 29) (r80 : q_r σ 8 0 = 2) (r81 : q_r σ 8 1 = p) (hE : q_E σ) (h : (Q (.inl (some (.int (zI 1)))) σ)) : J ω m_Pa_operand (d + 1) mc ms 0 0 127 [] [] σ Q := by
  refine j_iconst (v := zI 1) d_Pa_operand_127 (by decide) ?_
  exact zj_zret d_Pa_operand_128 rfl (by decide) (Nat.zero_le _) (Nat.zero_le _) h
set_option maxHeartbeats 2000000 in
theorem b_Pa_named_0 {ω : q_W} {σ : q_H} {Q : q_R → q_H → Prop} {d mc ms : Nat}  {p : Nat} (hp : p = 16 ∨ p = 29) (r80 : q_r σ 8 0 = 2) (r81 : q_r σ 8 1 = p) (hE : q_E σ) (h : (0 ≤ (z σ 2 8) ∧ (z σ 2 8) < 4097) ∧ (J ω m_Pr_find d 0 0 0 0 0 [(0, .ref p), (1, .long (q_l σ 6 (z σ 2 8).toNat))] [] σ (q_ki (fun v τ => J ω m_Pa_named (d + 1) mc ms 0 0 14 [(0, .ref 8)] [.int (zI v)] τ Q)))) : J ω m_Pa_named (d + 1) mc ms 0 0 0 [(0, .ref 8)] [] σ Q := by
  refine j_aload_n d_Pa_named_0 0 rfl ?_
  refine j_getR p f_Pa_37 d_Pa_named_1 (tg_8 hE) (q_okE hE (by decide)) (r81) (by omega) ?_
  refine j_aload_n d_Pa_named_4 0 rfl ?_
  refine j_getR 2 f_Pa_33 d_Pa_named_5 (tg_8 hE) (q_okE hE (by decide)) (r80) (by decide) ?_
  obtain ⟨c1, h⟩ := h
  refine j_callV m_Sc_name [] [.ref p] 0 0 0 cV_Pa_91 d_Pa_named_8 rfl rfl (tg_2 hE) (q_okE hE (by decide)) (Nat.le_of_ble_eq_true rfl) (Nat.succ_le_succ (Nat.zero_le _)) (Nat.le_of_ble_eq_true rfl) (Nat.zero_le _) (Nat.zero_le _) (c_Sc_name hE c1 (q_z _ _ _) (rfl)) (fun v τ h => ?_) (fun x τ h => absurd h.1 (by simp))
  obtain ⟨e1, e2⟩ := h; cases e1; rw [e2]
  refine j_callV m_Pr_find [.long (q_l σ 6 (z σ 2 8).toNat)] [] d 0 0 cV_Pa_102 d_Pa_named_11 rfl rfl (tY_p_0 hE hp) (q_okE hE (by omega)) (Nat.le_of_ble_eq_true rfl) (Nat.le_refl _) (Nat.le_of_ble_eq_true rfl) (Nat.zero_le _) (Nat.zero_le _) h (fun v τ h => ?_) (fun x τ h => ?_)
  · obtain ⟨v, hv, e1, h⟩ := h; cases e1; exact j_sel [0] rfl h
  · obtain ⟨v, hv, e1, h⟩ := h; cases e1
set_option maxHeartbeats 2000000 in
theorem b_Pa_named_14 {ω : q_W} {σ : q_H} {Q : q_R → q_H → Prop} {d mc ms : Nat} {y0 : Int} {p : Nat} (hp : p = 16 ∨ p = 29) (r80 : q_r σ 8 0 = 2) (r81 : q_r σ 8 1 = p) (hE : q_E σ) (h : inR y0 ∧ q_imp (y0 ≠ (-1)) (q_imp (y0 ≥ 12) ((0 ≤ (y0 - 12) ∧ (y0 - 12) < 12) ∧ (J ω m_Pa_push d 0 0 0 0 0 [(0, .ref 8), (1, .int (zI 25)), (2, .int (zI (y0 - 12))), (3, .int (zI (z σ (p + 3) (y0 - 12).toNat)))] [] σ (q_kv (fun τ => J ω m_Pa_named (d + 1) mc ms 0 0 93 [] [] τ Q)))) ∧ q_imp (y0 < 12) ((0 ≤ y0 ∧ y0 < 12) ∧ (J ω m_Pa_push d 0 0 0 0 0 [(0, .ref 8), (1, .int (zI 24)), (2, .int (zI y0)), (3, .int (zI (z σ (p + 1) y0.toNat)))] [] σ (q_kv (fun τ => J ω m_Pa_named (d + 1) mc ms 0 0 68 [] [] τ Q))))) ∧ q_imp (y0 = (-1)) ((0 ≤ (z σ 2 8) ∧ (z σ 2 8) < 4097) ∧ (J ω m_Pr_note d 0 0 0 0 0 [(0, .ref p), (1, .int (zI 2)), (2, .int (zI (z σ 5 (z σ 2 8).toNat)))] [] σ (q_kv (fun τ => J ω m_Pa_named (d + 1) mc ms 0 0 35 [(0, .ref 8)] [] τ Q))))) : J ω m_Pa_named (d + 1) mc ms 0 0 14 [(0, .ref 8)] [.int (zI y0)] σ Q := by
  refine j_istore_n (L' := [(1, .int (zI y0)), (0, .ref 8)]) d_Pa_named_14 (by decide) rfl ?_
  refine j_iload_n d_Pa_named_15 0 rfl ?_
  refine j_iconst (v := zI (-1)) d_Pa_named_16 (by decide) ?_
  obtain ⟨r2, h⟩ := h
  obtain ⟨h1, h2⟩ := h
  refine zj_icmp_ne 46 d_Pa_named_17 (by decide) r2 ⟨by decide, by decide⟩ (fun k3 => ?_) (fun k3 => ?_)
  · have h := h1 k3
    refine j_iload_n d_Pa_named_46 0 rfl ?_
    refine j_bipush (v := zI 12) d_Pa_named_47 (by decide) ?_
    obtain ⟨h1, h2⟩ := h
    refine zj_icmp_ge 71 d_Pa_named_49 (by decide) r2 ⟨by decide, by decide⟩ (fun k4 => ?_) (fun k4 => ?_)
    · have h := h1 k4
      refine j_aload_n d_Pa_named_71 1 rfl ?_
      refine j_bipush (v := zI 25) d_Pa_named_72 (by decide) ?_
      refine j_iload_n d_Pa_named_74 0 rfl ?_
      refine j_bipush (v := zI 12) d_Pa_named_75 (by decide) ?_
      refine zj_isub (y0 - 12) (by omega) d_Pa_named_77 ?_
      refine j_aload_n d_Pa_named_78 1 rfl ?_
      refine j_getR p f_Pa_37 d_Pa_named_79 (tg_8 hE) (q_okE hE (by decide)) (r81) (by omega) ?_
      refine j_getR (p + 3) f_Pa_206 d_Pa_named_82 (tY_p_0 hE hp) (q_okE hE (by omega)) (rY_p_5 hE hp) (by omega) ?_
      refine j_iload_n d_Pa_named_85 0 rfl ?_
      refine j_bipush (v := zI 12) d_Pa_named_86 (by decide) ?_
      refine zj_isub (y0 - 12) (by omega) d_Pa_named_88 ?_
      obtain ⟨c5, h⟩ := h
      refine zj_iald (z σ (p + 3) (y0 - 12).toNat) d_Pa_named_89 (tY_p_3 hE hp) (q_okE hE (by omega)) c5 (by decide) (q_z _ _ _) ?_
      refine j_callV m_Pa_push [.int (zI 25), .int (zI (y0 - 12)), .int (zI (z σ (p + 3) (y0 - 12).toNat))] [] d 0 0 cV_Pa_196 d_Pa_named_90 rfl rfl (tg_8 hE) (q_okE hE (by decide)) (Nat.le_of_ble_eq_true rfl) (Nat.le_refl _) (Nat.le_of_ble_eq_true rfl) (Nat.zero_le _) (Nat.zero_le _) h (fun v τ h => ?_) (fun x τ h => ?_)
      · obtain ⟨e1, h⟩ := h; cases e1; exact j_sel [] rfl h
      · obtain ⟨e1, h⟩ := h; cases e1
    · have h := h2 k4
      refine j_aload_n d_Pa_named_52 1 rfl ?_
      refine j_bipush (v := zI 24) d_Pa_named_53 (by decide) ?_
      refine j_iload_n d_Pa_named_55 0 rfl ?_
      refine j_aload_n d_Pa_named_56 1 rfl ?_
      refine j_getR p f_Pa_37 d_Pa_named_57 (tg_8 hE) (q_okE hE (by decide)) (r81) (by omega) ?_
      refine j_getR (p + 1) f_Pa_203 d_Pa_named_60 (tY_p_0 hE hp) (q_okE hE (by omega)) (rY_p_2 hE hp) (by omega) ?_
      refine j_iload_n d_Pa_named_63 0 rfl ?_
      obtain ⟨c6, h⟩ := h
      refine zj_iald (z σ (p + 1) y0.toNat) d_Pa_named_64 (tY_p_1 hE hp) (q_okE hE (by omega)) c6 (by decide) (q_z _ _ _) ?_
      refine j_callV m_Pa_push [.int (zI 24), .int (zI y0), .int (zI (z σ (p + 1) y0.toNat))] [] d 0 0 cV_Pa_196 d_Pa_named_65 rfl rfl (tg_8 hE) (q_okE hE (by decide)) (Nat.le_of_ble_eq_true rfl) (Nat.le_refl _) (Nat.le_of_ble_eq_true rfl) (Nat.zero_le _) (Nat.zero_le _) h (fun v τ h => ?_) (fun x τ h => ?_)
      · obtain ⟨e1, h⟩ := h; cases e1; exact j_sel [] rfl h
      · obtain ⟨e1, h⟩ := h; cases e1
  · have h := h2 k3
    refine j_aload_n d_Pa_named_20 1 rfl ?_
    refine j_getR p f_Pa_37 d_Pa_named_21 (tg_8 hE) (q_okE hE (by decide)) (r81) (by omega) ?_
    refine j_iconst (v := zI 2) d_Pa_named_24 (by decide) ?_
    refine j_aload_n d_Pa_named_25 1 rfl ?_
    refine j_getR 2 f_Pa_33 d_Pa_named_26 (tg_8 hE) (q_okE hE (by decide)) (r80) (by decide) ?_
    obtain ⟨c7, h⟩ := h
    refine j_callV m_Sc_start [] [.int (zI 2), .ref p] 0 0 0 cV_Pa_56 d_Pa_named_29 rfl rfl (tg_2 hE) (q_okE hE (by decide)) (Nat.le_of_ble_eq_true rfl) (Nat.succ_le_succ (Nat.zero_le _)) (Nat.le_of_ble_eq_true rfl) (Nat.zero_le _) (Nat.zero_le _) (c_Sc_start hE c7 (q_z _ _ _) (q_z _ _ _)) (fun v τ h => ?_) (fun x τ h => absurd h.1 (by simp))
    obtain ⟨e1, e2⟩ := h; cases e1; rw [e2]
    refine j_callV m_Pr_note [.int (zI 2), .int (zI (z σ 5 (z σ 2 8).toNat))] [] d 0 0 cV_Pa_71 d_Pa_named_32 rfl rfl (tY_p_0 hE hp) (q_okE hE (by omega)) (Nat.le_of_ble_eq_true rfl) (Nat.le_refl _) (Nat.le_of_ble_eq_true rfl) (Nat.zero_le _) (Nat.zero_le _) h (fun v τ h => ?_) (fun x τ h => ?_)
    · obtain ⟨e1, h⟩ := h; cases e1; exact j_sel [1] rfl h
    · obtain ⟨e1, h⟩ := h; cases e1
set_option maxHeartbeats 2000000 in
theorem b_Pa_named_93 {ω : q_W} {σ : q_H} {Q : q_R → q_H → Prop} {d mc ms : Nat}  {p : Nat} (hp : p = 16 ∨ p = 29) (r80 : q_r σ 8 0 = 2) (r81 : q_r σ 8 1 = p) (hE : q_E σ) (h : (Q (.inl none) σ)) : J ω m_Pa_named (d + 1) mc ms 0 0 93 [] [] σ Q := by
  exact j_vret d_Pa_named_93 rfl (Nat.zero_le _) (Nat.zero_le _) h
set_option maxHeartbeats 2000000 in
theorem b_Pa_named_68 {ω : q_W} {σ : q_H} {Q : q_R → q_H → Prop} {d mc ms : Nat}  {p : Nat} (hp : p = 16 ∨ p = 29) (r80 : q_r σ 8 0 = 2) (r81 : q_r σ 8 1 = p) (hE : q_E σ) (h : (Q (.inl none) σ)) : J ω m_Pa_named (d + 1) mc ms 0 0 68 [] [] σ Q := by
  refine j_goto 93 d_Pa_named_68 (by decide) ?_
  exact j_vret d_Pa_named_93 rfl (Nat.zero_le _) (Nat.zero_le _) h
set_option maxHeartbeats 2000000 in
theorem b_Pa_named_35 {ω : q_W} {σ : q_H} {Q : q_R → q_H → Prop} {d mc ms : Nat}  {p : Nat} (hp : p = 16 ∨ p = 29) (r80 : q_r σ 8 0 = 2) (r81 : q_r σ 8 1 = p) (hE : q_E σ) (h : (J ω m_Pa_push d 0 0 0 0 0 [(0, .ref 8), (1, .int (zI 23)), (2, .int (zI 0)), (3, .int (zI 1))] [] σ (q_kv (fun τ => J ω m_Pa_named (d + 1) mc ms 0 0 43 [] [] τ Q)))) : J ω m_Pa_named (d + 1) mc ms 0 0 35 [(0, .ref 8)] [] σ Q := by
  refine j_aload_n d_Pa_named_35 0 rfl ?_
  refine j_bipush (v := zI 23) d_Pa_named_36 (by decide) ?_
  refine j_iconst (v := zI 0) d_Pa_named_38 (by decide) ?_
  refine j_iconst (v := zI 1) d_Pa_named_39 (by decide) ?_
  refine j_callV m_Pa_push [.int (zI 23), .int (zI 0), .int (zI 1)] [] d 0 0 cV_Pa_196 d_Pa_named_40 rfl rfl (tg_8 hE) (q_okE hE (by decide)) (Nat.le_of_ble_eq_true rfl) (Nat.le_refl _) (Nat.le_of_ble_eq_true rfl) (Nat.zero_le _) (Nat.zero_le _) h (fun v τ h => ?_) (fun x τ h => ?_)
  · obtain ⟨e1, h⟩ := h; cases e1; exact j_sel [] rfl h
  · obtain ⟨e1, h⟩ := h; cases e1
set_option maxHeartbeats 2000000 in
theorem b_Pa_named_43 {ω : q_W} {σ : q_H} {Q : q_R → q_H → Prop} {d mc ms : Nat}  {p : Nat} (hp : p = 16 ∨ p = 29) (r80 : q_r σ 8 0 = 2) (r81 : q_r σ 8 1 = p) (hE : q_E σ) (h : (Q (.inl none) σ)) : J ω m_Pa_named (d + 1) mc ms 0 0 43 [] [] σ Q := by
  refine j_goto 93 d_Pa_named_43 (by decide) ?_
  exact j_vret d_Pa_named_93 rfl (Nat.zero_le _) (Nat.zero_le _) h
set_option maxHeartbeats 2000000 in
theorem b_Pa_push_0 {ω : q_W} {σ : q_H} {Q : q_R → q_H → Prop} {d mc ms : Nat} {x1 : Int} {x2 : Int} {x3 : Int} {p : Nat} (hp : p = 16 ∨ p = 29) (r80 : q_r σ 8 0 = 2) (r81 : q_r σ 8 1 = p) (hE : q_E σ) (h : q_imp ((z σ 8 12) ≥ 400) ((Q (.inl none) σ)) ∧ q_imp ((z σ 8 12) < 400) (q_imp ((z σ p 17) < 4096) ((0 ≤ (z σ 8 12) ∧ (z σ 8 12) < 400) ∧ (0 ≤ (z σ p 17) ∧ (z σ p 17) < 4096) ∧ (Q (.inl none) (zs (zs (zs (zs (zs (zs σ 15 (z σ 8 12).toNat x3) 8 12 ((z σ 8 12) + 1)) (p + 10) (z σ p 17).toNat x1) (p + 11) (z σ p 17).toNat x2) (p + 12) (z σ p 17).toNat x3) p 17 ((z σ p 17) + 1)))) ∧ q_imp ((z σ p 17) ≥ 4096) ((Q (.inl none) σ)))) : J ω m_Pa_push d mc ms 0 0 0 [(0, .ref 8), (1, .int (zI x1)), (2, .int (zI x2)), (3, .int (zI x3))] [] σ Q := by
  refine j_aload_n d_Pa_push_0 0 rfl ?_
  refine zj_getI (z σ 8 12) f_Pa_180 d_Pa_push_1 (tg_8 hE) (q_okE hE (by decide)) (q_z _ _ _) ?_
  refine j_sipush (v := zI 400) d_Pa_push_4 (by decide) ?_
  obtain ⟨h1, h2⟩ := h
  refine zj_icmp_ge 23 d_Pa_push_7 (by decide) (z_R _ _ _) ⟨by decide, by decide⟩ (fun k1 => ?_) (fun k1 => ?_)
  · have h := h1 k1
    exact j_vret d_Pa_push_23 rfl (Nat.zero_le _) (Nat.zero_le _) h
  · have h := h2 k1
    refine j_aload_n d_Pa_push_10 0 rfl ?_
    refine j_getR p f_Pa_37 d_Pa_push_11 (tg_8 hE) (q_okE hE (by decide)) (r81) (by omega) ?_
    refine zj_getI (z σ p 17) f_Pa_136 d_Pa_push_14 (tY_p_0 hE hp) (q_okE hE (by omega)) (q_z _ _ _) ?_
    refine j_sipush (v := zI 4096) d_Pa_push_17 (by decide) ?_
    obtain ⟨h1, h2⟩ := h
    refine zj_icmp_lt 24 d_Pa_push_20 (by decide) (z_R _ _ _) ⟨by decide, by decide⟩ (fun k2 => ?_) (fun k2 => ?_)
    · have h := h1 k2
      refine j_aload_n d_Pa_push_24 0 rfl ?_
      refine j_getR 15 f_Pa_30 d_Pa_push_25 (tg_8 hE) (q_okE hE (by decide)) (rf_8_11 hE) (by decide) ?_
      refine j_aload_n d_Pa_push_28 0 rfl ?_
      refine zj_getI (z σ 8 12) f_Pa_180 d_Pa_push_29 (tg_8 hE) (q_okE hE (by decide)) (q_z _ _ _) ?_
      refine j_iload_n d_Pa_push_32 3 rfl ?_
      obtain ⟨c3, h⟩ := h
      refine zj_iast d_Pa_push_33 (tg_15 hE) (q_okE hE (by decide)) c3 (by decide) ?_
      refine j_aload_n d_Pa_push_34 0 rfl ?_
      refine j_dup d_Pa_push_35 rfl ?_
      refine zj_getI (z σ 8 12) f_Pa_180 d_Pa_push_36 (tg_8 (zs_E hE)) (q_okE (zs_E hE) (by decide)) (Eq.trans (qs_o (by decide)) (q_z _ _ _)) ?_
      refine j_iconst (v := zI 1) d_Pa_push_39 (by decide) ?_
      refine zj_iadd ((z σ 8 12) + 1) (by omega) d_Pa_push_40 ?_
      refine zj_putI (g_Pa_180 _) d_Pa_push_41 (tg_8 (zs_E hE)) (q_okE (zs_E hE) (by decide)) ?_
      refine j_aload_n d_Pa_push_44 0 rfl ?_
      refine j_getR p f_Pa_37 d_Pa_push_45 (tg_8 (zs_E (zs_E hE))) (q_okE (zs_E (zs_E hE)) (by decide)) (Eq.trans (zs_r) (Eq.trans (zs_r) (r81))) (by omega) ?_
      refine zj_getI (z σ p 17) f_Pa_136 d_Pa_push_48 (tY_p_0 (zs_E (zs_E hE)) hp) (q_okE (zs_E (zs_E hE)) (by omega)) (Eq.trans (qs_o (by omega)) (Eq.trans (qs_o (by omega)) (q_z _ _ _))) ?_
      refine j_istore (L' := [(4, .int (zI (z σ p 17))), (0, .ref 8), (1, .int (zI x1)), (2, .int (zI x2)), (3, .int (zI x3))]) d_Pa_push_51 (by decide) rfl ?_
      refine j_aload_n d_Pa_push_53 1 rfl ?_
      refine j_getR p f_Pa_37 d_Pa_push_54 (tg_8 (zs_E (zs_E hE))) (q_okE (zs_E (zs_E hE)) (by decide)) (Eq.trans (zs_r) (Eq.trans (zs_r) (r81))) (by omega) ?_
      refine j_getR (p + 10) f_Pa_209 d_Pa_push_57 (tY_p_0 (zs_E (zs_E hE)) hp) (q_okE (zs_E (zs_E hE)) (by omega)) (rY_p_18 (zs_E (zs_E hE)) hp) (by omega) ?_
      refine j_iload d_Pa_push_60 0 rfl ?_
      refine j_iload_n d_Pa_push_62 2 rfl ?_
      obtain ⟨c4, h⟩ := h
      refine zj_iast d_Pa_push_63 (tY_p_10 (zs_E (zs_E hE)) hp) (q_okE (zs_E (zs_E hE)) (by omega)) c4 (by decide) ?_
      refine j_aload_n d_Pa_push_64 1 rfl ?_
      refine j_getR p f_Pa_37 d_Pa_push_65 (tg_8 (zs_E (zs_E (zs_E hE)))) (q_okE (zs_E (zs_E (zs_E hE))) (by decide)) (Eq.trans (zs_r) (Eq.trans (zs_r) (Eq.trans (zs_r) (r81)))) (by omega) ?_
      refine j_getR (p + 11) f_Pa_212 d_Pa_push_68 (tY_p_0 (zs_E (zs_E (zs_E hE))) hp) (q_okE (zs_E (zs_E (zs_E hE))) (by omega)) (rY_p_19 (zs_E (zs_E (zs_E hE))) hp) (by omega) ?_
      refine j_iload d_Pa_push_71 0 rfl ?_
      refine j_iload_n d_Pa_push_73 3 rfl ?_
      refine zj_iast d_Pa_push_74 (tY_p_11 (zs_E (zs_E (zs_E hE))) hp) (q_okE (zs_E (zs_E (zs_E hE))) (by omega)) c4 (by decide) ?_
      refine j_aload_n d_Pa_push_75 1 rfl ?_
      refine j_getR p f_Pa_37 d_Pa_push_76 (tg_8 (zs_E (zs_E (zs_E (zs_E hE))))) (q_okE (zs_E (zs_E (zs_E (zs_E hE)))) (by decide)) (Eq.trans (zs_r) (Eq.trans (zs_r) (Eq.trans (zs_r) (Eq.trans (zs_r) (r81))))) (by omega) ?_
      refine j_getR (p + 12) f_Pa_214 d_Pa_push_79 (tY_p_0 (zs_E (zs_E (zs_E (zs_E hE)))) hp) (q_okE (zs_E (zs_E (zs_E (zs_E hE)))) (by omega)) (rY_p_20 (zs_E (zs_E (zs_E (zs_E hE)))) hp) (by omega) ?_
      refine j_iload d_Pa_push_82 0 rfl ?_
      refine j_iload_n d_Pa_push_84 4 rfl ?_
      refine zj_iast d_Pa_push_85 (tY_p_12 (zs_E (zs_E (zs_E (zs_E hE)))) hp) (q_okE (zs_E (zs_E (zs_E (zs_E hE)))) (by omega)) c4 (by decide) ?_
      refine j_aload_n d_Pa_push_86 1 rfl ?_
      refine j_getR p f_Pa_37 d_Pa_push_87 (tg_8 (zs_E (zs_E (zs_E (zs_E (zs_E hE)))))) (q_okE (zs_E (zs_E (zs_E (zs_E (zs_E hE))))) (by decide)) (Eq.trans (zs_r) (Eq.trans (zs_r) (Eq.trans (zs_r) (Eq.trans (zs_r) (Eq.trans (zs_r) (r81)))))) (by omega) ?_
      refine j_dup d_Pa_push_90 rfl ?_
      refine zj_getI (z σ p 17) f_Pa_136 d_Pa_push_91 (tY_p_0 (zs_E (zs_E (zs_E (zs_E (zs_E hE))))) hp) (q_okE (zs_E (zs_E (zs_E (zs_E (zs_E hE))))) (by omega)) (Eq.trans (qs_o (by omega)) (Eq.trans (qs_o (by omega)) (Eq.trans (qs_o (by omega)) (Eq.trans (qs_o (by omega)) (Eq.trans (qs_o (by omega)) (q_z _ _ _)))))) ?_
      refine j_iconst (v := zI 1) d_Pa_push_94 (by decide) ?_
      refine zj_iadd ((z σ p 17) + 1) (by omega) d_Pa_push_95 ?_
      refine zj_putI (g_Pa_136 _) d_Pa_push_96 (tY_p_0 (zs_E (zs_E (zs_E (zs_E (zs_E hE))))) hp) (q_okE (zs_E (zs_E (zs_E (zs_E (zs_E hE))))) (by omega)) ?_
      exact j_vret d_Pa_push_99 rfl (Nat.zero_le _) (Nat.zero_le _) h
    · have h := h2 k2
      exact j_vret d_Pa_push_23 rfl (Nat.zero_le _) (Nat.zero_le _) h
set_option maxHeartbeats 2000000 in
theorem b_Pa_leastWidth_0 {ω : q_W} {σ : q_H} {Q : q_R → q_H → Prop} {d mc ms : Nat} {x0 : Int}  (hE : q_E σ) (h : (J ω m_Pa_leastWidth d mc ms 0 0 2 [(0, .int (zI x0)), (1, .int (zI 1))] [] σ Q)) : J ω m_Pa_leastWidth d mc ms 0 0 0 [(0, .int (zI x0))] [] σ Q := by
  refine j_iconst (v := zI 1) d_Pa_leastWidth_0 (by decide) ?_
  refine j_istore_n (L' := [(1, .int (zI 1)), (0, .int (zI x0))]) d_Pa_leastWidth_1 (by decide) rfl ?_
  exact j_sel [1, 0] rfl h
set_option maxHeartbeats 2000000 in
theorem b_Pa_leastWidth_2 {ω : q_W} {σ : q_H} {Q : q_R → q_H → Prop} {d mc ms : Nat} {x0 : Int} {x1 : Int}  (hE : q_E σ) (h : inR x1 ∧ q_imp (x1 ≥ 8) ((Q (.inl (some (.int (zI x1)))) σ)) ∧ q_imp (x1 < 8) (q_imp ((zShr x0 x1) = 0) ((Q (.inl (some (.int (zI x1)))) σ)) ∧ q_imp ((zShr x0 x1) ≠ 0) ((J ω m_Pa_leastWidth d mc ms 0 0 2 [(0, .int (zI x0)), (1, .int (zI (x1 + 1)))] [] σ Q)))) : J ω m_Pa_leastWidth d mc ms 0 0 2 [(0, .int (zI x0)), (1, .int (zI x1))] [] σ Q := by
  refine j_iload_n d_Pa_leastWidth_2 1 rfl ?_
  refine j_bipush (v := zI 8) d_Pa_leastWidth_3 (by decide) ?_
  obtain ⟨r1, h⟩ := h
  obtain ⟨h1, h2⟩ := h
  refine zj_icmp_ge 20 d_Pa_leastWidth_5 (by decide) r1 ⟨by decide, by decide⟩ (fun k2 => ?_) (fun k2 => ?_)
  · have h := h1 k2
    refine j_iload_n d_Pa_leastWidth_20 1 rfl ?_
    exact zj_iret d_Pa_leastWidth_21 rfl (Nat.zero_le _) (Nat.zero_le _) h
  · have h := h2 k2
    refine j_iload_n d_Pa_leastWidth_8 0 rfl ?_
    refine j_iload_n d_Pa_leastWidth_9 1 rfl ?_
    refine zj_ishr d_Pa_leastWidth_10 ?_
    obtain ⟨h1, h2⟩ := h
    refine zj_if_eq 20 d_Pa_leastWidth_11 (by decide) (inR_of _) (fun k3 => ?_) (fun k3 => ?_)
    · have h := h1 k3
      refine j_iload_n d_Pa_leastWidth_20 1 rfl ?_
      exact zj_iret d_Pa_leastWidth_21 rfl (Nat.zero_le _) (Nat.zero_le _) h
    · have h := h2 k3
      refine zj_iinc (L' := [(1, .int (zI (x1 + 1))), (0, .int (zI x0))]) (x1 + 1) d_Pa_leastWidth_14 1 rfl (by omega) (by decide) rfl ?_
      refine j_goto 2 d_Pa_leastWidth_17 (by decide) ?_
      exact j_sel [1, 0] rfl h
set_option maxHeartbeats 2000000 in
theorem b_Pa_deepen_0 {ω : q_W} {σ : q_H} {Q : q_R → q_H → Prop} {d mc ms : Nat} {x1 : Int} {p : Nat} (hp : p = 16 ∨ p = 29) (r80 : q_r σ 8 0 = 2) (r81 : q_r σ 8 1 = p) (hE : q_E σ) (h : (J ω m_Pa_pushSign d 0 0 0 0 0 [(0, .ref 8), (1, .int (zI x1))] [] σ (q_kv (fun τ => J ω m_Pa_deepen (d + 1) mc ms 0 0 5 [(0, .ref 8)] [] τ Q)))) : J ω m_Pa_deepen (d + 1) mc ms 0 0 0 [(0, .ref 8), (1, .int (zI x1))] [] σ Q := by
  refine j_aload_n d_Pa_deepen_0 0 rfl ?_
  refine j_iload_n d_Pa_deepen_1 1 rfl ?_
  refine j_callV m_Pa_pushSign [.int (zI x1)] [] d 0 0 cV_Pa_217 d_Pa_deepen_2 rfl rfl (tg_8 hE) (q_okE hE (by decide)) (Nat.le_of_ble_eq_true rfl) (Nat.le_refl _) (Nat.le_of_ble_eq_true rfl) (Nat.zero_le _) (Nat.zero_le _) h (fun v τ h => ?_) (fun x τ h => ?_)
  · obtain ⟨e1, h⟩ := h; cases e1; exact j_sel [0] rfl h
  · obtain ⟨e1, h⟩ := h; cases e1
set_option maxHeartbeats 2000000 in
theorem b_Pa_deepen_5 {ω : q_W} {σ : q_H} {Q : q_R → q_H → Prop} {d mc ms : Nat}  {p : Nat} (hp : p = 16 ∨ p = 29) (r80 : q_r σ 8 0 = 2) (r81 : q_r σ 8 1 = p) (hE : q_E σ) (h : (J ω m_Sc_advance d 0 0 0 0 0 [(0, .ref 2)] [] (zs σ 8 13 ((z σ 8 13) + 1)) (q_kv (fun τ => J ω m_Pa_deepen (d + 1) mc ms 0 0 22 [] [] τ Q)))) : J ω m_Pa_deepen (d + 1) mc ms 0 0 5 [(0, .ref 8)] [] σ Q := by
  refine j_aload_n d_Pa_deepen_5 0 rfl ?_
  refine j_dup d_Pa_deepen_6 rfl ?_
  refine zj_getI (z σ 8 13) f_Pa_174 d_Pa_deepen_7 (tg_8 hE) (q_okE hE (by decide)) (q_z _ _ _) ?_
  refine j_iconst (v := zI 1) d_Pa_deepen_10 (by decide) ?_
  refine zj_iadd ((z σ 8 13) + 1) (by omega) d_Pa_deepen_11 ?_
  refine zj_putI (g_Pa_174 _) d_Pa_deepen_12 (tg_8 hE) (q_okE hE (by decide)) ?_
  refine j_aload_n d_Pa_deepen_15 0 rfl ?_
  refine j_getR 2 f_Pa_33 d_Pa_deepen_16 (tg_8 (zs_E hE)) (q_okE (zs_E hE) (by decide)) (Eq.trans (zs_r) (r80)) (by decide) ?_
  refine j_callV m_Sc_advance [] [] d 0 0 cV_Pa_78 d_Pa_deepen_19 rfl rfl (tg_2 (zs_E hE)) (q_okE (zs_E hE) (by decide)) (Nat.le_of_ble_eq_true rfl) (Nat.le_refl _) (Nat.le_of_ble_eq_true rfl) (Nat.zero_le _) (Nat.zero_le _) h (fun v τ h => ?_) (fun x τ h => ?_)
  · obtain ⟨e1, h⟩ := h; cases e1; exact j_sel [] rfl h
  · obtain ⟨e1, h⟩ := h; cases e1
set_option maxHeartbeats 2000000 in
theorem b_Pa_deepen_22 {ω : q_W} {σ : q_H} {Q : q_R → q_H → Prop} {d mc ms : Nat}  {p : Nat} (hp : p = 16 ∨ p = 29) (r80 : q_r σ 8 0 = 2) (r81 : q_r σ 8 1 = p) (hE : q_E σ) (h : (Q (.inl none) σ)) : J ω m_Pa_deepen (d + 1) mc ms 0 0 22 [] [] σ Q := by
  exact j_vret d_Pa_deepen_22 rfl (Nat.zero_le _) (Nat.zero_le _) h
set_option maxHeartbeats 2000000 in
theorem b_Pa_pushSign_0 {ω : q_W} {σ : q_H} {Q : q_R → q_H → Prop} {d mc ms : Nat} {x1 : Int} {p : Nat} (hp : p = 16 ∨ p = 29) (r80 : q_r σ 8 0 = 2) (r81 : q_r σ 8 1 = p) (hE : q_E σ) (h : q_imp ((z σ 8 10) ≥ 400) ((Q (.inl none) σ)) ∧ q_imp ((z σ 8 10) < 400) ((0 ≤ (z σ 8 10) ∧ (z σ 8 10) < 400) ∧ (Q (.inl none) (zs (zs σ 14 (z σ 8 10).toNat x1) 8 10 ((z σ 8 10) + 1))))) : J ω m_Pa_pushSign d mc ms 0 0 0 [(0, .ref 8), (1, .int (zI x1))] [] σ Q := by
  refine j_aload_n d_Pa_pushSign_0 0 rfl ?_
  refine zj_getI (z σ 8 10) f_Pa_177 d_Pa_pushSign_1 (tg_8 hE) (q_okE hE (by decide)) (q_z _ _ _) ?_
  refine j_sipush (v := zI 400) d_Pa_pushSign_4 (by decide) ?_
  obtain ⟨h1, h2⟩ := h
  refine zj_icmp_ge 30 d_Pa_pushSign_7 (by decide) (z_R _ _ _) ⟨by decide, by decide⟩ (fun k1 => ?_) (fun k1 => ?_)
  · have h := h1 k1
    exact j_vret d_Pa_pushSign_30 rfl (Nat.zero_le _) (Nat.zero_le _) h
  · have h := h2 k1
    refine j_aload_n d_Pa_pushSign_10 0 rfl ?_
    refine j_getR 14 f_Pa_27 d_Pa_pushSign_11 (tg_8 hE) (q_okE hE (by decide)) (rf_8_9 hE) (by decide) ?_
    refine j_aload_n d_Pa_pushSign_14 0 rfl ?_
    refine zj_getI (z σ 8 10) f_Pa_177 d_Pa_pushSign_15 (tg_8 hE) (q_okE hE (by decide)) (q_z _ _ _) ?_
    refine j_iload_n d_Pa_pushSign_18 1 rfl ?_
    obtain ⟨c2, h⟩ := h
    refine zj_iast d_Pa_pushSign_19 (tg_14 hE) (q_okE hE (by decide)) c2 (by decide) ?_
    refine j_aload_n d_Pa_pushSign_20 0 rfl ?_
    refine j_dup d_Pa_pushSign_21 rfl ?_
    refine zj_getI (z σ 8 10) f_Pa_177 d_Pa_pushSign_22 (tg_8 (zs_E hE)) (q_okE (zs_E hE) (by decide)) (Eq.trans (qs_o (by decide)) (q_z _ _ _)) ?_
    refine j_iconst (v := zI 1) d_Pa_pushSign_25 (by decide) ?_
    refine zj_iadd ((z σ 8 10) + 1) (by omega) d_Pa_pushSign_26 ?_
    refine zj_putI (g_Pa_177 _) d_Pa_pushSign_27 (tg_8 (zs_E hE)) (q_okE (zs_E hE) (by decide)) ?_
    exact j_vret d_Pa_pushSign_30 rfl (Nat.zero_le _) (Nat.zero_le _) h
set_option maxHeartbeats 2000000 in
theorem b_Pa_follow_0 {ω : q_W} {σ : q_H} {Q : q_R → q_H → Prop} {d mc ms : Nat}  {p : Nat} (hp : p = 16 ∨ p = 29) (r80 : q_r σ 8 0 = 2) (r81 : q_r σ 8 1 = p) (hE : q_E σ) (h : (J ω m_Pa_follow (d + 1) mc ms 0 0 2 [(0, .ref 8), (1, .int (zI 0))] [] σ Q)) : J ω m_Pa_follow (d + 1) mc ms 0 0 0 [(0, .ref 8)] [] σ Q := by
  refine j_iconst (v := zI 0) d_Pa_follow_0 (by decide) ?_
  refine j_istore_n (L' := [(1, .int (zI 0)), (0, .ref 8)]) d_Pa_follow_1 (by decide) rfl ?_
  exact j_sel [1, 0] rfl h
set_option maxHeartbeats 2000000 in
theorem b_Pa_follow_2 {ω : q_W} {σ : q_H} {Q : q_R → q_H → Prop} {d mc ms : Nat} {x1 : Int} {p : Nat} (hp : p = 16 ∨ p = 29) (r80 : q_r σ 8 0 = 2) (r81 : q_r σ 8 1 = p) (hE : q_E σ) (h : inR x1 ∧ q_imp (x1 > 4096) ((Q (.inl (some (.int (zI 0)))) σ)) ∧ q_imp (x1 ≤ 4096) ((0 ≤ (z σ 2 8) ∧ (z σ 2 8) < 4097) ∧ q_imp ((z σ 4 (z σ 2 8).toNat) < 1) ((J ω m_Pa_follow (d + 1) mc ms 0 0 51 [(0, .ref 8), (1, .int (zI x1)), (2, .int (zI (z σ 4 (z σ 2 8).toNat)))] [] σ Q)) ∧ q_imp ((z σ 4 (z σ 2 8).toNat) ≥ 1) (q_imp ((z σ 4 (z σ 2 8).toNat) > 18) ((J ω m_Pa_follow (d + 1) mc ms 0 0 51 [(0, .ref 8), (1, .int (zI x1)), (2, .int (zI (z σ 4 (z σ 2 8).toNat)))] [] σ Q)) ∧ q_imp ((z σ 4 (z σ 2 8).toNat) ≤ 18) ((0 ≤ (z σ 4 (z σ 2 8).toNat) ∧ (z σ 4 (z σ 2 8).toNat) < 22) ∧ (J ω m_Pa_reduce d 0 0 0 0 0 [(0, .ref 8), (1, .int (zI (zT tb_1000001 (z σ 4 (z σ 2 8).toNat))))] [] σ (q_kv (fun τ => J ω m_Pa_follow (d + 1) mc ms 0 0 37 [(0, .ref 8), (2, .int (zI (z σ 4 (z σ 2 8).toNat)))] [] τ Q))))))) : J ω m_Pa_follow (d + 1) mc ms 0 0 2 [(0, .ref 8), (1, .int (zI x1))] [] σ Q := by
  refine j_iload_n d_Pa_follow_2 1 rfl ?_
  refine j_sipush (v := zI 4096) d_Pa_follow_3 (by decide) ?_
  obtain ⟨r1, h⟩ := h
  obtain ⟨h1, h2⟩ := h
  refine zj_icmp_gt 161 d_Pa_follow_6 (by decide) r1 ⟨by decide, by decide⟩ (fun k2 => ?_) (fun k2 => ?_)
  · have h := h1 k2
    refine j_iconst (v := zI 0) d_Pa_follow_161 (by decide) ?_
    exact zj_zret d_Pa_follow_162 rfl (by decide) (Nat.zero_le _) (Nat.zero_le _) h
  · have h := h2 k2
    refine j_aload_n d_Pa_follow_9 0 rfl ?_
    refine j_getR 2 f_Pa_33 d_Pa_follow_10 (tg_8 hE) (q_okE hE (by decide)) (r80) (by decide) ?_
    obtain ⟨c3, h⟩ := h
    refine j_callV m_Sc_kind [] [] 0 0 0 cV_Pa_75 d_Pa_follow_13 rfl rfl (tg_2 hE) (q_okE hE (by decide)) (Nat.le_of_ble_eq_true rfl) (Nat.succ_le_succ (Nat.zero_le _)) (Nat.le_of_ble_eq_true rfl) (Nat.zero_le _) (Nat.zero_le _) (c_Sc_kind hE c3 (q_z _ _ _) (q_z _ _ _)) (fun v τ h => ?_) (fun x τ h => absurd h.1 (by simp))
    obtain ⟨e1, e2⟩ := h; cases e1; rw [e2]
    refine j_istore_n (L' := [(2, .int (zI (z σ 4 (z σ 2 8).toNat))), (0, .ref 8), (1, .int (zI x1))]) d_Pa_follow_16 (by decide) rfl ?_
    refine j_iload_n d_Pa_follow_17 0 rfl ?_
    refine j_iconst (v := zI 1) d_Pa_follow_18 (by decide) ?_
    obtain ⟨h1, h2⟩ := h
    refine zj_icmp_lt 51 d_Pa_follow_19 (by decide) (z_R _ _ _) ⟨by decide, by decide⟩ (fun k4 => ?_) (fun k4 => ?_)
    · have h := h1 k4
      exact j_sel [1, 2, 0] rfl h
    · have h := h2 k4
      refine j_iload_n d_Pa_follow_22 0 rfl ?_
      refine j_bipush (v := zI 18) d_Pa_follow_23 (by decide) ?_
      obtain ⟨h1, h2⟩ := h
      refine zj_icmp_gt 51 d_Pa_follow_25 (by decide) (z_R _ _ _) ⟨by decide, by decide⟩ (fun k5 => ?_) (fun k5 => ?_)
      · have h := h1 k5
        exact j_sel [1, 2, 0] rfl h
      · have h := h2 k5
        refine j_aload_n d_Pa_follow_28 1 rfl ?_
        refine j_getsN (host := "ProofHall") (C := "ProofHall") (n := "STRENGTH") (dd := "[I") (v := .ref 1000001) (by simp [q_stas]) (List.mem_of_getElem? (i := 910) (by decide +kernel)) d_Pa_follow_29 ?_
        refine j_iload_n d_Pa_follow_32 0 rfl ?_
        obtain ⟨c6, h⟩ := h
        refine zj_ialdO (lst := tb_1000001) (by simp [q_olds, tb_1000001]) (by decide) d_Pa_follow_33 c6 (by decide) ?_
        refine j_callV m_Pa_reduce [.int (zI (zT tb_1000001 (z σ 4 (z σ 2 8).toNat)))] [] d 0 0 cV_Pa_223 d_Pa_follow_34 rfl rfl (tg_8 hE) (q_okE hE (by decide)) (Nat.le_of_ble_eq_true rfl) (Nat.le_refl _) (Nat.le_of_ble_eq_true rfl) (Nat.zero_le _) (Nat.zero_le _) h (fun v τ h => ?_) (fun x τ h => ?_)
        · obtain ⟨e1, h⟩ := h; cases e1; exact j_sel [1, 0] rfl h
        · obtain ⟨e1, h⟩ := h; cases e1
set_option maxHeartbeats 2000000 in
theorem b_Pa_follow_51 {ω : q_W} {σ : q_H} {Q : q_R → q_H → Prop} {d mc ms : Nat} {x1 : Int} {x2 : Int} {p : Nat} (hp : p = 16 ∨ p = 29) (r80 : q_r σ 8 0 = 2) (r81 : q_r σ 8 1 = p) (hE : q_E σ) (h : (J ω m_Pa_reduce d 0 0 0 0 0 [(0, .ref 8), (1, .int (zI 1))] [] σ (q_kv (fun τ => J ω m_Pa_follow (d + 1) mc ms 0 0 56 [(0, .ref 8), (1, .int (zI x1)), (2, .int (zI x2))] [] τ Q)))) : J ω m_Pa_follow (d + 1) mc ms 0 0 51 [(0, .ref 8), (1, .int (zI x1)), (2, .int (zI x2))] [] σ Q := by
  refine j_aload_n d_Pa_follow_51 0 rfl ?_
  refine j_iconst (v := zI 1) d_Pa_follow_52 (by decide) ?_
  refine j_callV m_Pa_reduce [.int (zI 1)] [] d 0 0 cV_Pa_223 d_Pa_follow_53 rfl rfl (tg_8 hE) (q_okE hE (by decide)) (Nat.le_of_ble_eq_true rfl) (Nat.le_refl _) (Nat.le_of_ble_eq_true rfl) (Nat.zero_le _) (Nat.zero_le _) h (fun v τ h => ?_) (fun x τ h => ?_)
  · obtain ⟨e1, h⟩ := h; cases e1; exact j_sel [0, 1, 2] rfl h
  · obtain ⟨e1, h⟩ := h; cases e1
set_option maxHeartbeats 2000000 in
theorem b_Pa_follow_37 {ω : q_W} {σ : q_H} {Q : q_R → q_H → Prop} {d mc ms : Nat} {x2 : Int} {p : Nat} (hp : p = 16 ∨ p = 29) (r80 : q_r σ 8 0 = 2) (r81 : q_r σ 8 1 = p) (hE : q_E σ) (h : (J ω m_Pa_pushSign d 0 0 0 0 0 [(0, .ref 8), (1, .int (zI x2))] [] σ (q_kv (fun τ => J ω m_Pa_follow (d + 1) mc ms 0 0 42 [(0, .ref 8)] [] τ Q)))) : J ω m_Pa_follow (d + 1) mc ms 0 0 37 [(0, .ref 8), (2, .int (zI x2))] [] σ Q := by
  refine j_aload_n d_Pa_follow_37 0 rfl ?_
  refine j_iload_n d_Pa_follow_38 1 rfl ?_
  refine j_callV m_Pa_pushSign [.int (zI x2)] [] d 0 0 cV_Pa_217 d_Pa_follow_39 rfl rfl (tg_8 hE) (q_okE hE (by decide)) (Nat.le_of_ble_eq_true rfl) (Nat.le_refl _) (Nat.le_of_ble_eq_true rfl) (Nat.zero_le _) (Nat.zero_le _) h (fun v τ h => ?_) (fun x τ h => ?_)
  · obtain ⟨e1, h⟩ := h; cases e1; exact j_sel [0] rfl h
  · obtain ⟨e1, h⟩ := h; cases e1
set_option maxHeartbeats 2000000 in
theorem b_Pa_follow_56 {ω : q_W} {σ : q_H} {Q : q_R → q_H → Prop} {d mc ms : Nat} {x1 : Int} {x2 : Int} {p : Nat} (hp : p = 16 ∨ p = 29) (r80 : q_r σ 8 0 = 2) (r81 : q_r σ 8 1 = p) (hE : q_E σ) (h : inR x2 ∧ q_imp (x2 ≠ 34) ((J ω m_Pa_reduceChoices d 0 0 0 0 0 [(0, .ref 8)] [] σ (q_kv (fun τ => J ω m_Pa_follow (d + 1) mc ms 0 0 74 [(0, .ref 8), (1, .int (zI x1)), (2, .int (zI x2))] [] τ Q)))) ∧ q_imp (x2 = 34) ((J ω m_Pa_deepen d 0 0 0 0 0 [(0, .ref 8), (1, .int (zI 34))] [] σ (q_kv (fun τ => J ω m_Pa_follow (d + 1) mc ms 0 0 68 [] [] τ Q))))) : J ω m_Pa_follow (d + 1) mc ms 0 0 56 [(0, .ref 8), (1, .int (zI x1)), (2, .int (zI x2))] [] σ Q := by
  refine j_iload_n d_Pa_follow_56 2 rfl ?_
  refine j_bipush (v := zI 34) d_Pa_follow_57 (by decide) ?_
  obtain ⟨r7, h⟩ := h
  obtain ⟨h1, h2⟩ := h
  refine zj_icmp_ne 70 d_Pa_follow_59 (by decide) r7 ⟨by decide, by decide⟩ (fun k8 => ?_) (fun k8 => ?_)
  · have h := h1 k8
    refine j_aload_n d_Pa_follow_70 0 rfl ?_
    refine j_callV m_Pa_reduceChoices [] [] d 0 0 cV_Pa_226 d_Pa_follow_71 rfl rfl (tg_8 hE) (q_okE hE (by decide)) (Nat.le_of_ble_eq_true rfl) (Nat.le_refl _) (Nat.le_of_ble_eq_true rfl) (Nat.zero_le _) (Nat.zero_le _) h (fun v τ h => ?_) (fun x τ h => ?_)
    · obtain ⟨e1, h⟩ := h; cases e1; exact j_sel [0, 1, 2] rfl h
    · obtain ⟨e1, h⟩ := h; cases e1
  · have h := h2 k8
    refine j_aload_n d_Pa_follow_62 0 rfl ?_
    refine j_bipush (v := zI 34) d_Pa_follow_63 (by decide) ?_
    refine j_callV m_Pa_deepen [.int (zI 34)] [] d 0 0 cV_Pa_200 d_Pa_follow_65 rfl rfl (tg_8 hE) (q_okE hE (by decide)) (Nat.le_of_ble_eq_true rfl) (Nat.le_refl _) (Nat.le_of_ble_eq_true rfl) (Nat.zero_le _) (Nat.zero_le _) h (fun v τ h => ?_) (fun x τ h => ?_)
    · obtain ⟨e1, h⟩ := h; cases e1; exact j_sel [] rfl h
    · obtain ⟨e1, h⟩ := h; cases e1
set_option maxHeartbeats 2000000 in
theorem b_Pa_follow_42 {ω : q_W} {σ : q_H} {Q : q_R → q_H → Prop} {d mc ms : Nat}  {p : Nat} (hp : p = 16 ∨ p = 29) (r80 : q_r σ 8 0 = 2) (r81 : q_r σ 8 1 = p) (hE : q_E σ) (h : (J ω m_Sc_advance d 0 0 0 0 0 [(0, .ref 2)] [] σ (q_kv (fun τ => J ω m_Pa_follow (d + 1) mc ms 0 0 49 [] [] τ Q)))) : J ω m_Pa_follow (d + 1) mc ms 0 0 42 [(0, .ref 8)] [] σ Q := by
  refine j_aload_n d_Pa_follow_42 0 rfl ?_
  refine j_getR 2 f_Pa_33 d_Pa_follow_43 (tg_8 hE) (q_okE hE (by decide)) (r80) (by decide) ?_
  refine j_callV m_Sc_advance [] [] d 0 0 cV_Pa_78 d_Pa_follow_46 rfl rfl (tg_2 hE) (q_okE hE (by decide)) (Nat.le_of_ble_eq_true rfl) (Nat.le_refl _) (Nat.le_of_ble_eq_true rfl) (Nat.zero_le _) (Nat.zero_le _) h (fun v τ h => ?_) (fun x τ h => ?_)
  · obtain ⟨e1, h⟩ := h; cases e1; exact j_sel [] rfl h
  · obtain ⟨e1, h⟩ := h; cases e1
set_option maxHeartbeats 2000000 in
theorem b_Pa_follow_74 {ω : q_W} {σ : q_H} {Q : q_R → q_H → Prop} {d mc ms : Nat} {x1 : Int} {x2 : Int} {p : Nat} (hp : p = 16 ∨ p = 29) (r80 : q_r σ 8 0 = 2) (r81 : q_r σ 8 1 = p) (hE : q_E σ) (h : inR x2 ∧ q_imp (x2 ≠ 33) ((J ω m_Pa_follow (d + 1) mc ms 0 0 111 [(0, .ref 8), (1, .int (zI x1)), (2, .int (zI x2))] [] σ Q)) ∧ q_imp (x2 = 33) ((J ω m_Pa_topSign d 0 0 0 0 0 [(0, .ref 8)] [] σ (q_ki (fun v τ => J ω m_Pa_follow (d + 1) mc ms 0 0 84 [(0, .ref 8), (1, .int (zI x1)), (2, .int (zI x2))] [.int (zI v)] τ Q))))) : J ω m_Pa_follow (d + 1) mc ms 0 0 74 [(0, .ref 8), (1, .int (zI x1)), (2, .int (zI x2))] [] σ Q := by
  refine j_iload_n d_Pa_follow_74 2 rfl ?_
  refine j_bipush (v := zI 33) d_Pa_follow_75 (by decide) ?_
  obtain ⟨r9, h⟩ := h
  obtain ⟨h1, h2⟩ := h
  refine zj_icmp_ne 111 d_Pa_follow_77 (by decide) r9 ⟨by decide, by decide⟩ (fun k10 => ?_) (fun k10 => ?_)
  · have h := h1 k10
    exact j_sel [0, 1, 2] rfl h
  · have h := h2 k10
    refine j_aload_n d_Pa_follow_80 0 rfl ?_
    refine j_callV m_Pa_topSign [] [] d 0 0 cV_Pa_229 d_Pa_follow_81 rfl rfl (tg_8 hE) (q_okE hE (by decide)) (Nat.le_of_ble_eq_true rfl) (Nat.le_refl _) (Nat.le_of_ble_eq_true rfl) (Nat.zero_le _) (Nat.zero_le _) h (fun v τ h => ?_) (fun x τ h => ?_)
    · obtain ⟨v, hv, e1, h⟩ := h; cases e1; exact j_sel [0, 1, 2] rfl h
    · obtain ⟨v, hv, e1, h⟩ := h; cases e1
set_option maxHeartbeats 2000000 in
theorem b_Pa_follow_68 {ω : q_W} {σ : q_H} {Q : q_R → q_H → Prop} {d mc ms : Nat}  {p : Nat} (hp : p = 16 ∨ p = 29) (r80 : q_r σ 8 0 = 2) (r81 : q_r σ 8 1 = p) (hE : q_E σ) (h : (Q (.inl (some (.int (zI 1)))) σ)) : J ω m_Pa_follow (d + 1) mc ms 0 0 68 [] [] σ Q := by
  refine j_iconst (v := zI 1) d_Pa_follow_68 (by decide) ?_
  exact zj_zret d_Pa_follow_69 rfl (by decide) (Nat.zero_le _) (Nat.zero_le _) h
set_option maxHeartbeats 2000000 in
theorem b_Pa_follow_49 {ω : q_W} {σ : q_H} {Q : q_R → q_H → Prop} {d mc ms : Nat}  {p : Nat} (hp : p = 16 ∨ p = 29) (r80 : q_r σ 8 0 = 2) (r81 : q_r σ 8 1 = p) (hE : q_E σ) (h : (Q (.inl (some (.int (zI 1)))) σ)) : J ω m_Pa_follow (d + 1) mc ms 0 0 49 [] [] σ Q := by
  refine j_iconst (v := zI 1) d_Pa_follow_49 (by decide) ?_
  exact zj_zret d_Pa_follow_50 rfl (by decide) (Nat.zero_le _) (Nat.zero_le _) h
set_option maxHeartbeats 2000000 in
theorem b_Pa_follow_111 {ω : q_W} {σ : q_H} {Q : q_R → q_H → Prop} {d mc ms : Nat} {x1 : Int} {x2 : Int} {p : Nat} (hp : p = 16 ∨ p = 29) (r80 : q_r σ 8 0 = 2) (r81 : q_r σ 8 1 = p) (hE : q_E σ) (h : inR x2 ∧ q_imp (x2 ≠ 36) ((Q (.inl (some (.int (zI 0)))) σ)) ∧ q_imp (x2 = 36) ((J ω m_Pa_topSign d 0 0 0 0 0 [(0, .ref 8)] [] σ (q_ki (fun v τ => J ω m_Pa_follow (d + 1) mc ms 0 0 121 [(0, .ref 8), (1, .int (zI x1))] [.int (zI v)] τ Q))))) : J ω m_Pa_follow (d + 1) mc ms 0 0 111 [(0, .ref 8), (1, .int (zI x1)), (2, .int (zI x2))] [] σ Q := by
  refine j_iload_n d_Pa_follow_111 2 rfl ?_
  refine j_bipush (v := zI 36) d_Pa_follow_112 (by decide) ?_
  obtain ⟨r11, h⟩ := h
  obtain ⟨h1, h2⟩ := h
  refine zj_icmp_ne 126 d_Pa_follow_114 (by decide) r11 ⟨by decide, by decide⟩ (fun k12 => ?_) (fun k12 => ?_)
  · have h := h1 k12
    refine j_iconst (v := zI 0) d_Pa_follow_126 (by decide) ?_
    exact zj_zret d_Pa_follow_127 rfl (by decide) (Nat.zero_le _) (Nat.zero_le _) h
  · have h := h2 k12
    refine j_aload_n d_Pa_follow_117 0 rfl ?_
    refine j_callV m_Pa_topSign [] [] d 0 0 cV_Pa_229 d_Pa_follow_118 rfl rfl (tg_8 hE) (q_okE hE (by decide)) (Nat.le_of_ble_eq_true rfl) (Nat.le_refl _) (Nat.le_of_ble_eq_true rfl) (Nat.zero_le _) (Nat.zero_le _) h (fun v τ h => ?_) (fun x τ h => ?_)
    · obtain ⟨v, hv, e1, h⟩ := h; cases e1; exact j_sel [0, 1] rfl h
    · obtain ⟨v, hv, e1, h⟩ := h; cases e1
set_option maxHeartbeats 2000000 in
theorem b_Pa_follow_84 {ω : q_W} {σ : q_H} {Q : q_R → q_H → Prop} {d mc ms : Nat} {x1 : Int} {x2 : Int} {y0 : Int} {p : Nat} (hp : p = 16 ∨ p = 29) (r80 : q_r σ 8 0 = 2) (r81 : q_r σ 8 1 = p) (hE : q_E σ) (h : inR y0 ∧ q_imp (y0 ≠ 34) ((J ω m_Pa_follow (d + 1) mc ms 0 0 111 [(0, .ref 8), (1, .int (zI x1)), (2, .int (zI x2))] [] σ Q)) ∧ q_imp (y0 = 34) ((0 ≤ ((z σ 8 10) - 1) ∧ ((z σ 8 10) - 1) < 400) ∧ (J ω m_Sc_advance d 0 0 0 0 0 [(0, .ref 2)] [] (zs σ 14 ((z σ 8 10) - 1).toNat 33) (q_kv (fun τ => J ω m_Pa_follow (d + 1) mc ms 0 0 109 [] [] τ Q))))) : J ω m_Pa_follow (d + 1) mc ms 0 0 84 [(0, .ref 8), (1, .int (zI x1)), (2, .int (zI x2))] [.int (zI y0)] σ Q := by
  refine j_bipush (v := zI 34) d_Pa_follow_84 (by decide) ?_
  obtain ⟨r13, h⟩ := h
  obtain ⟨h1, h2⟩ := h
  refine zj_icmp_ne 111 d_Pa_follow_86 (by decide) r13 ⟨by decide, by decide⟩ (fun k14 => ?_) (fun k14 => ?_)
  · have h := h1 k14
    exact j_sel [0, 1, 2] rfl h
  · have h := h2 k14
    refine j_aload_n d_Pa_follow_89 0 rfl ?_
    refine j_getR 14 f_Pa_27 d_Pa_follow_90 (tg_8 hE) (q_okE hE (by decide)) (rf_8_9 hE) (by decide) ?_
    refine j_aload_n d_Pa_follow_93 0 rfl ?_
    refine zj_getI (z σ 8 10) f_Pa_177 d_Pa_follow_94 (tg_8 hE) (q_okE hE (by decide)) (q_z _ _ _) ?_
    refine j_iconst (v := zI 1) d_Pa_follow_97 (by decide) ?_
    refine zj_isub ((z σ 8 10) - 1) (by omega) d_Pa_follow_98 ?_
    refine j_bipush (v := zI 33) d_Pa_follow_99 (by decide) ?_
    obtain ⟨c15, h⟩ := h
    refine zj_iast d_Pa_follow_101 (tg_14 hE) (q_okE hE (by decide)) c15 (by decide) ?_
    refine j_aload_n d_Pa_follow_102 0 rfl ?_
    refine j_getR 2 f_Pa_33 d_Pa_follow_103 (tg_8 (zs_E hE)) (q_okE (zs_E hE) (by decide)) (Eq.trans (zs_r) (r80)) (by decide) ?_
    refine j_callV m_Sc_advance [] [] d 0 0 cV_Pa_78 d_Pa_follow_106 rfl rfl (tg_2 (zs_E hE)) (q_okE (zs_E hE) (by decide)) (Nat.le_of_ble_eq_true rfl) (Nat.le_refl _) (Nat.le_of_ble_eq_true rfl) (Nat.zero_le _) (Nat.zero_le _) h (fun v τ h => ?_) (fun x τ h => ?_)
    · obtain ⟨e1, h⟩ := h; cases e1; exact j_sel [] rfl h
    · obtain ⟨e1, h⟩ := h; cases e1
set_option maxHeartbeats 2000000 in
theorem b_Pa_follow_121 {ω : q_W} {σ : q_H} {Q : q_R → q_H → Prop} {d mc ms : Nat} {x1 : Int} {y0 : Int} {p : Nat} (hp : p = 16 ∨ p = 29) (r80 : q_r σ 8 0 = 2) (r81 : q_r σ 8 1 = p) (hE : q_E σ) (h : inR y0 ∧ q_imp (y0 = 35) ((J ω m_Sc_advance d 0 0 0 0 0 [(0, .ref 2)] [] (zs (zs σ 8 10 ((z σ 8 10) - 1)) 8 13 ((z σ 8 13) - 1)) (q_kv (fun τ => J ω m_Pa_follow (d + 1) mc ms 0 0 155 [(0, .ref 8), (1, .int (zI x1))] [] τ Q)))) ∧ q_imp (y0 ≠ 35) ((Q (.inl (some (.int (zI 0)))) σ))) : J ω m_Pa_follow (d + 1) mc ms 0 0 121 [(0, .ref 8), (1, .int (zI x1))] [.int (zI y0)] σ Q := by
  refine j_bipush (v := zI 35) d_Pa_follow_121 (by decide) ?_
  obtain ⟨r16, h⟩ := h
  obtain ⟨h1, h2⟩ := h
  refine zj_icmp_eq 128 d_Pa_follow_123 (by decide) r16 ⟨by decide, by decide⟩ (fun k17 => ?_) (fun k17 => ?_)
  · have h := h1 k17
    refine j_aload_n d_Pa_follow_128 0 rfl ?_
    refine j_dup d_Pa_follow_129 rfl ?_
    refine zj_getI (z σ 8 10) f_Pa_177 d_Pa_follow_130 (tg_8 hE) (q_okE hE (by decide)) (q_z _ _ _) ?_
    refine j_iconst (v := zI 1) d_Pa_follow_133 (by decide) ?_
    refine zj_isub ((z σ 8 10) - 1) (by omega) d_Pa_follow_134 ?_
    refine zj_putI (g_Pa_177 _) d_Pa_follow_135 (tg_8 hE) (q_okE hE (by decide)) ?_
    refine j_aload_n d_Pa_follow_138 0 rfl ?_
    refine j_dup d_Pa_follow_139 rfl ?_
    refine zj_getI (z σ 8 13) f_Pa_174 d_Pa_follow_140 (tg_8 (zs_E hE)) (q_okE (zs_E hE) (by decide)) (Eq.trans (qs_k (by decide)) (q_z _ _ _)) ?_
    refine j_iconst (v := zI 1) d_Pa_follow_143 (by decide) ?_
    refine zj_isub ((z σ 8 13) - 1) (by omega) d_Pa_follow_144 ?_
    refine zj_putI (g_Pa_174 _) d_Pa_follow_145 (tg_8 (zs_E hE)) (q_okE (zs_E hE) (by decide)) ?_
    refine j_aload_n d_Pa_follow_148 0 rfl ?_
    refine j_getR 2 f_Pa_33 d_Pa_follow_149 (tg_8 (zs_E (zs_E hE))) (q_okE (zs_E (zs_E hE)) (by decide)) (Eq.trans (zs_r) (Eq.trans (zs_r) (r80))) (by decide) ?_
    refine j_callV m_Sc_advance [] [] d 0 0 cV_Pa_78 d_Pa_follow_152 rfl rfl (tg_2 (zs_E (zs_E hE))) (q_okE (zs_E (zs_E hE)) (by decide)) (Nat.le_of_ble_eq_true rfl) (Nat.le_refl _) (Nat.le_of_ble_eq_true rfl) (Nat.zero_le _) (Nat.zero_le _) h (fun v τ h => ?_) (fun x τ h => ?_)
    · obtain ⟨e1, h⟩ := h; cases e1; exact j_sel [0, 1] rfl h
    · obtain ⟨e1, h⟩ := h; cases e1
  · have h := h2 k17
    refine j_iconst (v := zI 0) d_Pa_follow_126 (by decide) ?_
    exact zj_zret d_Pa_follow_127 rfl (by decide) (Nat.zero_le _) (Nat.zero_le _) h
set_option maxHeartbeats 2000000 in
theorem b_Pa_follow_109 {ω : q_W} {σ : q_H} {Q : q_R → q_H → Prop} {d mc ms : Nat}  {p : Nat} (hp : p = 16 ∨ p = 29) (r80 : q_r σ 8 0 = 2) (r81 : q_r σ 8 1 = p) (hE : q_E σ) (h : (Q (.inl (some (.int (zI 1)))) σ)) : J ω m_Pa_follow (d + 1) mc ms 0 0 109 [] [] σ Q := by
  refine j_iconst (v := zI 1) d_Pa_follow_109 (by decide) ?_
  exact zj_zret d_Pa_follow_110 rfl (by decide) (Nat.zero_le _) (Nat.zero_le _) h
set_option maxHeartbeats 2000000 in
theorem b_Pa_follow_155 {ω : q_W} {σ : q_H} {Q : q_R → q_H → Prop} {d mc ms : Nat} {x1 : Int} {p : Nat} (hp : p = 16 ∨ p = 29) (r80 : q_r σ 8 0 = 2) (r81 : q_r σ 8 1 = p) (hE : q_E σ) (h : (J ω m_Pa_follow (d + 1) mc ms 0 0 2 [(0, .ref 8), (1, .int (zI (x1 + 1)))] [] σ Q)) : J ω m_Pa_follow (d + 1) mc ms 0 0 155 [(0, .ref 8), (1, .int (zI x1))] [] σ Q := by
  refine zj_iinc (L' := [(1, .int (zI (x1 + 1))), (0, .ref 8)]) (x1 + 1) d_Pa_follow_155 1 rfl (by omega) (by decide) rfl ?_
  refine j_goto 2 d_Pa_follow_158 (by decide) ?_
  exact j_sel [1, 0] rfl h
set_option maxHeartbeats 2000000 in
theorem b_Pa_reduce_0 {ω : q_W} {σ : q_H} {Q : q_R → q_H → Prop} {d mc ms : Nat} {x1 : Int} {p : Nat} (hp : p = 16 ∨ p = 29) (r80 : q_r σ 8 0 = 2) (r81 : q_r σ 8 1 = p) (hE : q_E σ) (h : q_imp ((z σ 8 10) ≤ 0) ((Q (.inl none) σ)) ∧ q_imp (0 < (z σ 8 10)) ((J ω m_Pa_topSign d 0 0 0 0 0 [(0, .ref 8)] [] σ (q_ki (fun v τ => J ω m_Pa_reduce (d + 1) mc ms 0 0 11 [(0, .ref 8), (1, .int (zI x1))] [.int (zI v)] τ Q))))) : J ω m_Pa_reduce (d + 1) mc ms 0 0 0 [(0, .ref 8), (1, .int (zI x1))] [] σ Q := by
  refine j_aload_n d_Pa_reduce_0 0 rfl ?_
  refine zj_getI (z σ 8 10) f_Pa_177 d_Pa_reduce_1 (tg_8 hE) (q_okE hE (by decide)) (q_z _ _ _) ?_
  obtain ⟨h1, h2⟩ := h
  refine zj_if_le 68 d_Pa_reduce_4 (by decide) (z_R _ _ _) (fun k1 => ?_) (fun k1 => ?_)
  · have h := h1 k1
    exact j_vret d_Pa_reduce_68 rfl (Nat.zero_le _) (Nat.zero_le _) h
  · have h := h2 k1
    refine j_aload_n d_Pa_reduce_7 0 rfl ?_
    refine j_callV m_Pa_topSign [] [] d 0 0 cV_Pa_229 d_Pa_reduce_8 rfl rfl (tg_8 hE) (q_okE hE (by decide)) (Nat.le_of_ble_eq_true rfl) (Nat.le_refl _) (Nat.le_of_ble_eq_true rfl) (Nat.zero_le _) (Nat.zero_le _) h (fun v τ h => ?_) (fun x τ h => ?_)
    · obtain ⟨v, hv, e1, h⟩ := h; cases e1; exact j_sel [0, 1] rfl h
    · obtain ⟨v, hv, e1, h⟩ := h; cases e1
set_option maxHeartbeats 2000000 in
theorem b_Pa_reduce_11 {ω : q_W} {σ : q_H} {Q : q_R → q_H → Prop} {d mc ms : Nat} {x1 : Int} {y0 : Int} {p : Nat} (hp : p = 16 ∨ p = 29) (r80 : q_r σ 8 0 = 2) (r81 : q_r σ 8 1 = p) (hE : q_E σ) (h : inR y0 ∧ q_imp (y0 > 21) ((Q (.inl none) σ)) ∧ q_imp (y0 ≤ 21) ((J ω m_Pa_topSign d 0 0 0 0 0 [(0, .ref 8)] [] σ (q_ki (fun v τ => J ω m_Pa_reduce (d + 1) mc ms 0 0 23 [(0, .ref 8), (1, .int (zI x1))] [.int (zI v), .ref 1000001] τ Q))))) : J ω m_Pa_reduce (d + 1) mc ms 0 0 11 [(0, .ref 8), (1, .int (zI x1))] [.int (zI y0)] σ Q := by
  refine j_bipush (v := zI 21) d_Pa_reduce_11 (by decide) ?_
  obtain ⟨r2, h⟩ := h
  obtain ⟨h1, h2⟩ := h
  refine zj_icmp_gt 68 d_Pa_reduce_13 (by decide) r2 ⟨by decide, by decide⟩ (fun k3 => ?_) (fun k3 => ?_)
  · have h := h1 k3
    exact j_vret d_Pa_reduce_68 rfl (Nat.zero_le _) (Nat.zero_le _) h
  · have h := h2 k3
    refine j_getsN (host := "ProofHall") (C := "ProofHall") (n := "STRENGTH") (dd := "[I") (v := .ref 1000001) (by simp [q_stas]) (List.mem_of_getElem? (i := 910) (by decide +kernel)) d_Pa_reduce_16 ?_
    refine j_aload_n d_Pa_reduce_19 0 rfl ?_
    refine j_callV m_Pa_topSign [] [.ref 1000001] d 0 0 cV_Pa_229 d_Pa_reduce_20 rfl rfl (tg_8 hE) (q_okE hE (by decide)) (Nat.le_of_ble_eq_true rfl) (Nat.le_refl _) (Nat.le_of_ble_eq_true rfl) (Nat.zero_le _) (Nat.zero_le _) h (fun v τ h => ?_) (fun x τ h => ?_)
    · obtain ⟨v, hv, e1, h⟩ := h; cases e1; exact j_sel [0, 1] rfl h
    · obtain ⟨v, hv, e1, h⟩ := h; cases e1
set_option maxHeartbeats 2000000 in
theorem b_Pa_reduce_23 {ω : q_W} {σ : q_H} {Q : q_R → q_H → Prop} {d mc ms : Nat} {x1 : Int} {y0 : Int} {p : Nat} (hp : p = 16 ∨ p = 29) (r80 : q_r σ 8 0 = 2) (r81 : q_r σ 8 1 = p) (hE : q_E σ) (h : (0 ≤ y0 ∧ y0 < 22) ∧ inR x1 ∧ q_imp ((zT tb_1000001 y0) < x1) ((Q (.inl none) σ)) ∧ q_imp ((zT tb_1000001 y0) ≥ x1) ((J ω m_Pa_topSign d 0 0 0 0 0 [(0, .ref 8)] [] σ (q_ki (fun v τ => J ω m_Pa_reduce (d + 1) mc ms 0 0 32 [(0, .ref 8), (1, .int (zI x1))] [.int (zI v)] τ Q))))) : J ω m_Pa_reduce (d + 1) mc ms 0 0 23 [(0, .ref 8), (1, .int (zI x1))] [.int (zI y0), .ref 1000001] σ Q := by
  obtain ⟨c4, h⟩ := h
  refine zj_ialdO (lst := tb_1000001) (by simp [q_olds, tb_1000001]) (by decide) d_Pa_reduce_23 c4 (by decide) ?_
  refine j_iload_n d_Pa_reduce_24 1 rfl ?_
  obtain ⟨r5, h⟩ := h
  obtain ⟨h1, h2⟩ := h
  refine zj_icmp_lt 68 d_Pa_reduce_25 (by decide) (inR_of _) r5 (fun k6 => ?_) (fun k6 => ?_)
  · have h := h1 k6
    exact j_vret d_Pa_reduce_68 rfl (Nat.zero_le _) (Nat.zero_le _) h
  · have h := h2 k6
    refine j_aload_n d_Pa_reduce_28 0 rfl ?_
    refine j_callV m_Pa_topSign [] [] d 0 0 cV_Pa_229 d_Pa_reduce_29 rfl rfl (tg_8 hE) (q_okE hE (by decide)) (Nat.le_of_ble_eq_true rfl) (Nat.le_refl _) (Nat.le_of_ble_eq_true rfl) (Nat.zero_le _) (Nat.zero_le _) h (fun v τ h => ?_) (fun x τ h => ?_)
    · obtain ⟨v, hv, e1, h⟩ := h; cases e1; exact j_sel [0, 1] rfl h
    · obtain ⟨v, hv, e1, h⟩ := h; cases e1
set_option maxHeartbeats 2000000 in
theorem b_Pa_reduce_32 {ω : q_W} {σ : q_H} {Q : q_R → q_H → Prop} {d mc ms : Nat} {x1 : Int} {y0 : Int} {p : Nat} (hp : p = 16 ∨ p = 29) (r80 : q_r σ 8 0 = 2) (r81 : q_r σ 8 1 = p) (hE : q_E σ) (h : inR y0 ∧ q_imp (y0 < 19) ((J ω m_Pa_reduce (d + 1) mc ms 0 0 47 [(0, .ref 8), (1, .int (zI x1))] [] σ Q)) ∧ q_imp (y0 ≥ 19) ((J ω m_Pa_reduce (d + 1) mc ms 0 0 47 [(0, .ref 8), (1, .int (zI x1))] [] (zs σ 8 13 ((z σ 8 13) - 1)) Q))) : J ω m_Pa_reduce (d + 1) mc ms 0 0 32 [(0, .ref 8), (1, .int (zI x1))] [.int (zI y0)] σ Q := by
  refine j_bipush (v := zI 19) d_Pa_reduce_32 (by decide) ?_
  obtain ⟨r7, h⟩ := h
  obtain ⟨h1, h2⟩ := h
  refine zj_icmp_lt 47 d_Pa_reduce_34 (by decide) r7 ⟨by decide, by decide⟩ (fun k8 => ?_) (fun k8 => ?_)
  · have h := h1 k8
    exact j_sel [0, 1] rfl h
  · have h := h2 k8
    refine j_aload_n d_Pa_reduce_37 0 rfl ?_
    refine j_dup d_Pa_reduce_38 rfl ?_
    refine zj_getI (z σ 8 13) f_Pa_174 d_Pa_reduce_39 (tg_8 hE) (q_okE hE (by decide)) (q_z _ _ _) ?_
    refine j_iconst (v := zI 1) d_Pa_reduce_42 (by decide) ?_
    refine zj_isub ((z σ 8 13) - 1) (by omega) d_Pa_reduce_43 ?_
    refine zj_putI (g_Pa_174 _) d_Pa_reduce_44 (tg_8 hE) (q_okE hE (by decide)) ?_
    exact j_sel [0, 1] rfl h
set_option maxHeartbeats 2000000 in
theorem b_Pa_reduce_47 {ω : q_W} {σ : q_H} {Q : q_R → q_H → Prop} {d mc ms : Nat} {x1 : Int} {p : Nat} (hp : p = 16 ∨ p = 29) (r80 : q_r σ 8 0 = 2) (r81 : q_r σ 8 1 = p) (hE : q_E σ) (h : (J ω m_Pa_topSign d 0 0 0 0 0 [(0, .ref 8)] [] σ (q_ki (fun v τ => J ω m_Pa_reduce (d + 1) mc ms 0 0 52 [(0, .ref 8), (1, .int (zI x1))] [.int (zI v), .ref 8] τ Q)))) : J ω m_Pa_reduce (d + 1) mc ms 0 0 47 [(0, .ref 8), (1, .int (zI x1))] [] σ Q := by
  refine j_aload_n d_Pa_reduce_47 0 rfl ?_
  refine j_aload_n d_Pa_reduce_48 0 rfl ?_
  refine j_callV m_Pa_topSign [] [.ref 8] d 0 0 cV_Pa_229 d_Pa_reduce_49 rfl rfl (tg_8 hE) (q_okE hE (by decide)) (Nat.le_of_ble_eq_true rfl) (Nat.le_refl _) (Nat.le_of_ble_eq_true rfl) (Nat.zero_le _) (Nat.zero_le _) h (fun v τ h => ?_) (fun x τ h => ?_)
  · obtain ⟨v, hv, e1, h⟩ := h; cases e1; exact j_sel [0, 1] rfl h
  · obtain ⟨v, hv, e1, h⟩ := h; cases e1
set_option maxHeartbeats 2000000 in
theorem b_Pa_reduce_52 {ω : q_W} {σ : q_H} {Q : q_R → q_H → Prop} {d mc ms : Nat} {x1 : Int} {y0 : Int} {p : Nat} (hp : p = 16 ∨ p = 29) (r80 : q_r σ 8 0 = 2) (r81 : q_r σ 8 1 = p) (hE : q_E σ) (h : (J ω m_Pa_apply d 0 0 0 0 0 [(0, .ref 8), (1, .int (zI y0))] [] σ (q_kv (fun τ => J ω m_Pa_reduce (d + 1) mc ms 0 0 55 [(0, .ref 8), (1, .int (zI x1))] [] τ Q)))) : J ω m_Pa_reduce (d + 1) mc ms 0 0 52 [(0, .ref 8), (1, .int (zI x1))] [.int (zI y0), .ref 8] σ Q := by
  refine j_callV m_Pa_apply [.int (zI y0)] [] d 0 0 cV_Pa_232 d_Pa_reduce_52 rfl rfl (tg_8 hE) (q_okE hE (by decide)) (Nat.le_of_ble_eq_true rfl) (Nat.le_refl _) (Nat.le_of_ble_eq_true rfl) (Nat.zero_le _) (Nat.zero_le _) h (fun v τ h => ?_) (fun x τ h => ?_)
  · obtain ⟨e1, h⟩ := h; cases e1; exact j_sel [0, 1] rfl h
  · obtain ⟨e1, h⟩ := h; cases e1
set_option maxHeartbeats 2000000 in
theorem b_Pa_reduce_55 {ω : q_W} {σ : q_H} {Q : q_R → q_H → Prop} {d mc ms : Nat} {x1 : Int} {p : Nat} (hp : p = 16 ∨ p = 29) (r80 : q_r σ 8 0 = 2) (r81 : q_r σ 8 1 = p) (hE : q_E σ) (h : (J ω m_Pa_reduce (d + 1) mc ms 0 0 0 [(0, .ref 8), (1, .int (zI x1))] [] (zs σ 8 10 ((z σ 8 10) - 1)) Q)) : J ω m_Pa_reduce (d + 1) mc ms 0 0 55 [(0, .ref 8), (1, .int (zI x1))] [] σ Q := by
  refine j_aload_n d_Pa_reduce_55 0 rfl ?_
  refine j_dup d_Pa_reduce_56 rfl ?_
  refine zj_getI (z σ 8 10) f_Pa_177 d_Pa_reduce_57 (tg_8 hE) (q_okE hE (by decide)) (q_z _ _ _) ?_
  refine j_iconst (v := zI 1) d_Pa_reduce_60 (by decide) ?_
  refine zj_isub ((z σ 8 10) - 1) (by omega) d_Pa_reduce_61 ?_
  refine zj_putI (g_Pa_177 _) d_Pa_reduce_62 (tg_8 hE) (q_okE hE (by decide)) ?_
  refine j_goto 0 d_Pa_reduce_65 (by decide) ?_
  exact j_sel [0, 1] rfl h
set_option maxHeartbeats 2000000 in
theorem b_Pa_topSign_0 {ω : q_W} {σ : q_H} {Q : q_R → q_H → Prop} {d mc ms : Nat}  {p : Nat} (hp : p = 16 ∨ p = 29) (r80 : q_r σ 8 0 = 2) (r81 : q_r σ 8 1 = p) (hE : q_E σ) (h : q_imp ((z σ 8 10) ≤ 0) ((Q (.inl (some (.int (zI 0)))) σ)) ∧ q_imp (0 < (z σ 8 10)) ((0 ≤ ((z σ 8 10) - 1) ∧ ((z σ 8 10) - 1) < 400) ∧ (Q (.inl (some (.int (zI (z σ 14 ((z σ 8 10) - 1).toNat))))) σ))) : J ω m_Pa_topSign d mc ms 0 0 0 [(0, .ref 8)] [] σ Q := by
  refine j_aload_n d_Pa_topSign_0 0 rfl ?_
  refine zj_getI (z σ 8 10) f_Pa_177 d_Pa_topSign_1 (tg_8 hE) (q_okE hE (by decide)) (q_z _ _ _) ?_
  obtain ⟨h1, h2⟩ := h
  refine zj_if_le 21 d_Pa_topSign_4 (by decide) (z_R _ _ _) (fun k1 => ?_) (fun k1 => ?_)
  · have h := h1 k1
    refine j_iconst (v := zI 0) d_Pa_topSign_21 (by decide) ?_
    exact zj_iret d_Pa_topSign_22 rfl (Nat.zero_le _) (Nat.zero_le _) h
  · have h := h2 k1
    refine j_aload_n d_Pa_topSign_7 0 rfl ?_
    refine j_getR 14 f_Pa_27 d_Pa_topSign_8 (tg_8 hE) (q_okE hE (by decide)) (rf_8_9 hE) (by decide) ?_
    refine j_aload_n d_Pa_topSign_11 0 rfl ?_
    refine zj_getI (z σ 8 10) f_Pa_177 d_Pa_topSign_12 (tg_8 hE) (q_okE hE (by decide)) (q_z _ _ _) ?_
    refine j_iconst (v := zI 1) d_Pa_topSign_15 (by decide) ?_
    refine zj_isub ((z σ 8 10) - 1) (by omega) d_Pa_topSign_16 ?_
    obtain ⟨c2, h⟩ := h
    refine zj_iald (z σ 14 ((z σ 8 10) - 1).toNat) d_Pa_topSign_17 (tg_14 hE) (q_okE hE (by decide)) c2 (by decide) (q_z _ _ _) ?_
    refine j_goto 22 d_Pa_topSign_18 (by decide) ?_
    exact zj_iret d_Pa_topSign_22 rfl (Nat.zero_le _) (Nat.zero_le _) h
set_option maxHeartbeats 2000000 in
theorem b_Pa_apply_0 {ω : q_W} {σ : q_H} {Q : q_R → q_H → Prop} {d mc ms : Nat} {x1 : Int} {p : Nat} (hp : p = 16 ∨ p = 29) (r80 : q_r σ 8 0 = 2) (r81 : q_r σ 8 1 = p) (hE : q_E σ) (h : inR x1 ∧ q_imp (x1 ≠ 22) (q_imp (x1 < 19) ((J ω m_Pa_apply (d + 1) mc ms 0 0 21 [(0, .ref 8), (1, .int (zI x1))] [.int (zI 2)] σ Q)) ∧ q_imp (x1 ≥ 19) ((J ω m_Pa_apply (d + 1) mc ms 0 0 21 [(0, .ref 8), (1, .int (zI x1))] [.int (zI 1)] σ Q))) ∧ q_imp (x1 = 22) ((J ω m_Pa_apply (d + 1) mc ms 0 0 21 [(0, .ref 8), (1, .int (zI x1))] [.int (zI 3)] σ Q))) : J ω m_Pa_apply (d + 1) mc ms 0 0 0 [(0, .ref 8), (1, .int (zI x1))] [] σ Q := by
  refine j_iload_n d_Pa_apply_0 1 rfl ?_
  refine j_bipush (v := zI 22) d_Pa_apply_1 (by decide) ?_
  obtain ⟨r1, h⟩ := h
  obtain ⟨h1, h2⟩ := h
  refine zj_icmp_ne 10 d_Pa_apply_3 (by decide) r1 ⟨by decide, by decide⟩ (fun k2 => ?_) (fun k2 => ?_)
  · have h := h1 k2
    refine j_iload_n d_Pa_apply_10 1 rfl ?_
    refine j_bipush (v := zI 19) d_Pa_apply_11 (by decide) ?_
    obtain ⟨h1, h2⟩ := h
    refine zj_icmp_lt 20 d_Pa_apply_13 (by decide) r1 ⟨by decide, by decide⟩ (fun k3 => ?_) (fun k3 => ?_)
    · have h := h1 k3
      refine j_iconst (v := zI 2) d_Pa_apply_20 (by decide) ?_
      exact j_sel [0, 1] rfl h
    · have h := h2 k3
      refine j_iconst (v := zI 1) d_Pa_apply_16 (by decide) ?_
      refine j_goto 21 d_Pa_apply_17 (by decide) ?_
      exact j_sel [0, 1] rfl h
  · have h := h2 k2
    refine j_iconst (v := zI 3) d_Pa_apply_6 (by decide) ?_
    refine j_goto 21 d_Pa_apply_7 (by decide) ?_
    exact j_sel [0, 1] rfl h
set_option maxHeartbeats 2000000 in
theorem b_Pa_apply_21 {ω : q_W} {σ : q_H} {Q : q_R → q_H → Prop} {d mc ms : Nat} {x1 : Int} {y0 : Int} {p : Nat} (hp : p = 16 ∨ p = 29) (r80 : q_r σ 8 0 = 2) (r81 : q_r σ 8 1 = p) (hE : q_E σ) (h : inR y0 ∧ q_imp ((z σ 8 12) ≥ y0) ((0 ≤ ((z σ 8 12) - y0) ∧ ((z σ 8 12) - y0) < 400) ∧ q_imp (y0 ≤ 1) ((J ω m_Pa_apply (d + 1) mc ms 0 0 71 [(0, .ref 8), (1, .int (zI x1)), (2, .int (zI y0)), (3, .int (zI (z σ 15 ((z σ 8 12) - y0).toNat)))] [.int (zI (z σ 15 ((z σ 8 12) - y0).toNat))] (zs σ 8 12 ((z σ 8 12) - y0)) Q)) ∧ q_imp (y0 > 1) ((0 ≤ (((z σ 8 12) - y0) + 1) ∧ (((z σ 8 12) - y0) + 1) < 400) ∧ (J ω m_Pa_apply (d + 1) mc ms 0 0 71 [(0, .ref 8), (1, .int (zI x1)), (2, .int (zI y0)), (3, .int (zI (z σ 15 ((z σ 8 12) - y0).toNat)))] [.int (zI (z σ 15 (((z σ 8 12) - y0) + 1).toNat))] (zs σ 8 12 ((z σ 8 12) - y0)) Q))) ∧ q_imp ((z σ 8 12) < y0) ((Q (.inl none) σ))) : J ω m_Pa_apply (d + 1) mc ms 0 0 21 [(0, .ref 8), (1, .int (zI x1))] [.int (zI y0)] σ Q := by
  refine j_istore_n (L' := [(2, .int (zI y0)), (0, .ref 8), (1, .int (zI x1))]) d_Pa_apply_21 (by decide) rfl ?_
  refine j_aload_n d_Pa_apply_22 1 rfl ?_
  refine zj_getI (z σ 8 12) f_Pa_180 d_Pa_apply_23 (tg_8 hE) (q_okE hE (by decide)) (q_z _ _ _) ?_
  refine j_iload_n d_Pa_apply_26 0 rfl ?_
  obtain ⟨r4, h⟩ := h
  obtain ⟨h1, h2⟩ := h
  refine zj_icmp_ge 31 d_Pa_apply_27 (by decide) (z_R _ _ _) r4 (fun k5 => ?_) (fun k5 => ?_)
  · have h := h1 k5
    refine j_aload_n d_Pa_apply_31 1 rfl ?_
    refine j_dup d_Pa_apply_32 rfl ?_
    refine zj_getI (z σ 8 12) f_Pa_180 d_Pa_apply_33 (tg_8 hE) (q_okE hE (by decide)) (q_z _ _ _) ?_
    refine j_iload_n d_Pa_apply_36 0 rfl ?_
    refine zj_isub ((z σ 8 12) - y0) rfl d_Pa_apply_37 ?_
    refine zj_putI (g_Pa_180 _) d_Pa_apply_38 (tg_8 hE) (q_okE hE (by decide)) ?_
    refine j_aload_n d_Pa_apply_41 1 rfl ?_
    refine j_getR 15 f_Pa_30 d_Pa_apply_42 (tg_8 (zs_E hE)) (q_okE (zs_E hE) (by decide)) (rf_8_11 (zs_E hE)) (by decide) ?_
    refine j_aload_n d_Pa_apply_45 1 rfl ?_
    refine zj_getI ((z σ 8 12) - y0) f_Pa_180 d_Pa_apply_46 (tg_8 (zs_E hE)) (q_okE (zs_E hE) (by decide)) (qs_s) ?_
    obtain ⟨c6, h⟩ := h
    refine zj_iald (z σ 15 ((z σ 8 12) - y0).toNat) d_Pa_apply_49 (tg_15 (zs_E hE)) (q_okE (zs_E hE) (by decide)) c6 (by decide) (Eq.trans (qs_o (by decide)) (q_z _ _ _)) ?_
    refine j_istore_n (L' := [(3, .int (zI (z σ 15 ((z σ 8 12) - y0).toNat))), (2, .int (zI y0)), (0, .ref 8), (1, .int (zI x1))]) d_Pa_apply_50 (by decide) rfl ?_
    refine j_iload_n d_Pa_apply_51 1 rfl ?_
    refine j_iconst (v := zI 1) d_Pa_apply_52 (by decide) ?_
    obtain ⟨h1, h2⟩ := h
    refine zj_icmp_le 70 d_Pa_apply_53 (by decide) r4 ⟨by decide, by decide⟩ (fun k7 => ?_) (fun k7 => ?_)
    · have h := h1 k7
      refine j_iload_n d_Pa_apply_70 0 rfl ?_
      exact j_sel [2, 3, 1, 0] rfl h
    · have h := h2 k7
      refine j_aload_n d_Pa_apply_56 2 rfl ?_
      refine j_getR 15 f_Pa_30 d_Pa_apply_57 (tg_8 (zs_E hE)) (q_okE (zs_E hE) (by decide)) (rf_8_11 (zs_E hE)) (by decide) ?_
      refine j_aload_n d_Pa_apply_60 2 rfl ?_
      refine zj_getI ((z σ 8 12) - y0) f_Pa_180 d_Pa_apply_61 (tg_8 (zs_E hE)) (q_okE (zs_E hE) (by decide)) (qs_s) ?_
      refine j_iconst (v := zI 1) d_Pa_apply_64 (by decide) ?_
      refine zj_iadd (((z σ 8 12) - y0) + 1) (by omega) d_Pa_apply_65 ?_
      obtain ⟨c8, h⟩ := h
      refine zj_iald (z σ 15 (((z σ 8 12) - y0) + 1).toNat) d_Pa_apply_66 (tg_15 (zs_E hE)) (q_okE (zs_E hE) (by decide)) c8 (by decide) (Eq.trans (qs_o (by decide)) (q_z _ _ _)) ?_
      refine j_goto 71 d_Pa_apply_67 (by decide) ?_
      exact j_sel [2, 3, 1, 0] rfl h
  · have h := h2 k5
    exact j_vret d_Pa_apply_30 rfl (Nat.zero_le _) (Nat.zero_le _) h
set_option maxHeartbeats 2000000 in
theorem b_Pa_apply_71 {ω : q_W} {σ : q_H} {Q : q_R → q_H → Prop} {d mc ms : Nat} {x1 : Int} {x2 : Int} {x3 : Int} {y0 : Int} {p : Nat} (hp : p = 16 ∨ p = 29) (r80 : q_r σ 8 0 = 2) (r81 : q_r σ 8 1 = p) (hE : q_E σ) (h : inR x2 ∧ q_imp (x2 ≤ 2) ((J ω m_Pa_apply (d + 1) mc ms 0 0 94 [(0, .ref 8), (1, .int (zI x1)), (3, .int (zI x3)), (4, .int (zI y0))] [.int (zI y0)] σ Q)) ∧ q_imp (x2 > 2) ((0 ≤ ((z σ 8 12) + 2) ∧ ((z σ 8 12) + 2) < 400) ∧ (J ω m_Pa_apply (d + 1) mc ms 0 0 94 [(0, .ref 8), (1, .int (zI x1)), (3, .int (zI x3)), (4, .int (zI y0))] [.int (zI (z σ 15 ((z σ 8 12) + 2).toNat))] σ Q))) : J ω m_Pa_apply (d + 1) mc ms 0 0 71 [(0, .ref 8), (1, .int (zI x1)), (2, .int (zI x2)), (3, .int (zI x3))] [.int (zI y0)] σ Q := by
  refine j_istore (L' := [(4, .int (zI y0)), (0, .ref 8), (1, .int (zI x1)), (2, .int (zI x2)), (3, .int (zI x3))]) d_Pa_apply_71 (by decide) rfl ?_
  refine j_iload_n d_Pa_apply_73 3 rfl ?_
  refine j_iconst (v := zI 2) d_Pa_apply_74 (by decide) ?_
  obtain ⟨r9, h⟩ := h
  obtain ⟨h1, h2⟩ := h
  refine zj_icmp_le 92 d_Pa_apply_75 (by decide) r9 ⟨by decide, by decide⟩ (fun k10 => ?_) (fun k10 => ?_)
  · have h := h1 k10
    refine j_iload d_Pa_apply_92 0 rfl ?_
    exact j_sel [1, 2, 4, 0] rfl h
  · have h := h2 k10
    refine j_aload_n d_Pa_apply_78 1 rfl ?_
    refine j_getR 15 f_Pa_30 d_Pa_apply_79 (tg_8 hE) (q_okE hE (by decide)) (rf_8_11 hE) (by decide) ?_
    refine j_aload_n d_Pa_apply_82 1 rfl ?_
    refine zj_getI (z σ 8 12) f_Pa_180 d_Pa_apply_83 (tg_8 hE) (q_okE hE (by decide)) (q_z _ _ _) ?_
    refine j_iconst (v := zI 2) d_Pa_apply_86 (by decide) ?_
    refine zj_iadd ((z σ 8 12) + 2) (by omega) d_Pa_apply_87 ?_
    obtain ⟨c11, h⟩ := h
    refine zj_iald (z σ 15 ((z σ 8 12) + 2).toNat) d_Pa_apply_88 (tg_15 hE) (q_okE hE (by decide)) c11 (by decide) (q_z _ _ _) ?_
    refine j_goto 94 d_Pa_apply_89 (by decide) ?_
    exact j_sel [1, 2, 4, 0] rfl h
set_option maxHeartbeats 2000000 in
theorem b_Pa_apply_94 {ω : q_W} {σ : q_H} {Q : q_R → q_H → Prop} {d mc ms : Nat} {x1 : Int} {x3 : Int} {x4 : Int} {y0 : Int} {p : Nat} (hp : p = 16 ∨ p = 29) (r80 : q_r σ 8 0 = 2) (r81 : q_r σ 8 1 = p) (hE : q_E σ) (h : inR x4 ∧ inR y0 ∧ inR x3 ∧ inR (max x4 y0) ∧ (0 ≤ x1 ∧ x1 < 23) ∧ q_imp ((zT tb_1000002 x1) ≠ 1) ((0 ≤ x1 ∧ x1 < 23) ∧ q_imp ((zT tb_1000002 x1) ≠ 2) ((0 ≤ x1 ∧ x1 < 23) ∧ q_imp ((zT tb_1000002 x1) ≠ 3) ((J ω m_Pa_apply (d + 1) mc ms 0 0 156 [(0, .ref 8), (1, .int (zI x1)), (6, .int (zI (max x3 (max x4 y0))))] [.int (zI (max x3 (max x4 y0)))] σ Q)) ∧ q_imp ((zT tb_1000002 x1) = 3) ((J ω m_Pa_apply (d + 1) mc ms 0 0 156 [(0, .ref 8), (1, .int (zI x1)), (6, .int (zI (max x3 (max x4 y0))))] [.int (zI (max x4 y0))] σ Q))) ∧ q_imp ((zT tb_1000002 x1) = 2) ((J ω m_Pa_apply (d + 1) mc ms 0 0 156 [(0, .ref 8), (1, .int (zI x1)), (6, .int (zI (max x3 (max x4 y0))))] [.int (zI x3)] σ Q))) ∧ q_imp ((zT tb_1000002 x1) = 1) ((J ω m_Pa_apply (d + 1) mc ms 0 0 156 [(0, .ref 8), (1, .int (zI x1)), (6, .int (zI (max x3 (max x4 y0))))] [.int (zI 1)] σ Q))) : J ω m_Pa_apply (d + 1) mc ms 0 0 94 [(0, .ref 8), (1, .int (zI x1)), (3, .int (zI x3)), (4, .int (zI x4))] [.int (zI y0)] σ Q := by
  refine j_istore (L' := [(5, .int (zI y0)), (0, .ref 8), (1, .int (zI x1)), (3, .int (zI x3)), (4, .int (zI x4))]) d_Pa_apply_94 (by decide) rfl ?_
  refine j_iload_n d_Pa_apply_96 3 rfl ?_
  refine j_iload d_Pa_apply_97 4 rfl ?_
  refine j_iload d_Pa_apply_99 0 rfl ?_
  obtain ⟨r12, h⟩ := h
  obtain ⟨r13, h⟩ := h
  refine zj_max (List.mem_of_getElem? (i := 876) (by decide +kernel)) d_Pa_apply_101 (Nat.succ_le_succ (Nat.zero_le _)) (Nat.le_of_ble_eq_true rfl) (Nat.zero_le _) (Nat.zero_le _) r12 r13 ?_
  obtain ⟨r14, h⟩ := h
  obtain ⟨r15, h⟩ := h
  refine zj_max (List.mem_of_getElem? (i := 876) (by decide +kernel)) d_Pa_apply_104 (Nat.succ_le_succ (Nat.zero_le _)) (Nat.le_of_ble_eq_true rfl) (Nat.zero_le _) (Nat.zero_le _) r14 r15 ?_
  refine j_istore (L' := [(6, .int (zI (max x3 (max x4 y0)))), (5, .int (zI y0)), (0, .ref 8), (1, .int (zI x1)), (3, .int (zI x3)), (4, .int (zI x4))]) d_Pa_apply_107 (by decide) rfl ?_
  refine j_getsN (host := "ProofHall") (C := "ProofHall") (n := "OUTCOME") (dd := "[I") (v := .ref 1000002) (by simp [q_stas]) (List.mem_of_getElem? (i := 924) (by decide +kernel)) d_Pa_apply_109 ?_
  refine j_iload_n d_Pa_apply_112 3 rfl ?_
  obtain ⟨c16, h⟩ := h
  refine zj_ialdO (lst := tb_1000002) (by simp [q_olds, tb_1000002]) (by decide) d_Pa_apply_113 c16 (by decide) ?_
  refine j_iconst (v := zI 1) d_Pa_apply_114 (by decide) ?_
  obtain ⟨h1, h2⟩ := h
  refine zj_icmp_ne 122 d_Pa_apply_115 (by decide) (inR_of _) ⟨by decide, by decide⟩ (fun k17 => ?_) (fun k17 => ?_)
  · have h := h1 k17
    refine j_getsN (host := "ProofHall") (C := "ProofHall") (n := "OUTCOME") (dd := "[I") (v := .ref 1000002) (by simp [q_stas]) (List.mem_of_getElem? (i := 924) (by decide +kernel)) d_Pa_apply_122 ?_
    refine j_iload_n d_Pa_apply_125 3 rfl ?_
    obtain ⟨c18, h⟩ := h
    refine zj_ialdO (lst := tb_1000002) (by simp [q_olds, tb_1000002]) (by decide) d_Pa_apply_126 c18 (by decide) ?_
    refine j_iconst (v := zI 2) d_Pa_apply_127 (by decide) ?_
    obtain ⟨h1, h2⟩ := h
    refine zj_icmp_ne 135 d_Pa_apply_128 (by decide) (inR_of _) ⟨by decide, by decide⟩ (fun k19 => ?_) (fun k19 => ?_)
    · have h := h1 k19
      refine j_getsN (host := "ProofHall") (C := "ProofHall") (n := "OUTCOME") (dd := "[I") (v := .ref 1000002) (by simp [q_stas]) (List.mem_of_getElem? (i := 924) (by decide +kernel)) d_Pa_apply_135 ?_
      refine j_iload_n d_Pa_apply_138 3 rfl ?_
      obtain ⟨c20, h⟩ := h
      refine zj_ialdO (lst := tb_1000002) (by simp [q_olds, tb_1000002]) (by decide) d_Pa_apply_139 c20 (by decide) ?_
      refine j_iconst (v := zI 3) d_Pa_apply_140 (by decide) ?_
      obtain ⟨h1, h2⟩ := h
      refine zj_icmp_ne 154 d_Pa_apply_141 (by decide) (inR_of _) ⟨by decide, by decide⟩ (fun k21 => ?_) (fun k21 => ?_)
      · have h := h1 k21
        refine j_iload d_Pa_apply_154 0 rfl ?_
        exact j_sel [2, 3, 0] rfl h
      · have h := h2 k21
        refine j_iload d_Pa_apply_144 5 rfl ?_
        refine j_iload d_Pa_apply_146 1 rfl ?_
        refine zj_max (List.mem_of_getElem? (i := 876) (by decide +kernel)) d_Pa_apply_148 (Nat.succ_le_succ (Nat.zero_le _)) (Nat.le_of_ble_eq_true rfl) (Nat.zero_le _) (Nat.zero_le _) r12 r13 ?_
        refine j_goto 156 d_Pa_apply_151 (by decide) ?_
        exact j_sel [2, 3, 0] rfl h
    · have h := h2 k19
      refine j_iload_n d_Pa_apply_131 4 rfl ?_
      refine j_goto 156 d_Pa_apply_132 (by decide) ?_
      exact j_sel [2, 3, 0] rfl h
  · have h := h2 k17
    refine j_iconst (v := zI 1) d_Pa_apply_118 (by decide) ?_
    refine j_goto 156 d_Pa_apply_119 (by decide) ?_
    exact j_sel [2, 3, 0] rfl h
set_option maxHeartbeats 2000000 in
theorem b_Pa_apply_156 {ω : q_W} {σ : q_H} {Q : q_R → q_H → Prop} {d mc ms : Nat} {x1 : Int} {x6 : Int} {y0 : Int} {p : Nat} (hp : p = 16 ∨ p = 29) (r80 : q_r σ 8 0 = 2) (r81 : q_r σ 8 1 = p) (hE : q_E σ) (h : (J ω m_Pa_push d 0 0 0 0 0 [(0, .ref 8), (1, .int (zI x1)), (2, .int (zI 0)), (3, .int (zI y0))] [] σ (q_kv (fun τ => J ω m_Pa_apply (d + 1) mc ms 0 0 166 [(0, .ref 8), (1, .int (zI x1)), (6, .int (zI x6))] [] τ Q)))) : J ω m_Pa_apply (d + 1) mc ms 0 0 156 [(0, .ref 8), (1, .int (zI x1)), (6, .int (zI x6))] [.int (zI y0)] σ Q := by
  refine j_istore (L' := [(7, .int (zI y0)), (0, .ref 8), (1, .int (zI x1)), (6, .int (zI x6))]) d_Pa_apply_156 (by decide) rfl ?_
  refine j_aload_n d_Pa_apply_158 1 rfl ?_
  refine j_iload_n d_Pa_apply_159 2 rfl ?_
  refine j_iconst (v := zI 0) d_Pa_apply_160 (by decide) ?_
  refine j_iload d_Pa_apply_161 0 rfl ?_
  refine j_callV m_Pa_push [.int (zI x1), .int (zI 0), .int (zI y0)] [] d 0 0 cV_Pa_196 d_Pa_apply_163 rfl rfl (tg_8 hE) (q_okE hE (by decide)) (Nat.le_of_ble_eq_true rfl) (Nat.le_refl _) (Nat.le_of_ble_eq_true rfl) (Nat.zero_le _) (Nat.zero_le _) h (fun v τ h => ?_) (fun x τ h => ?_)
  · obtain ⟨e1, h⟩ := h; cases e1; exact j_sel [1, 2, 3] rfl h
  · obtain ⟨e1, h⟩ := h; cases e1
set_option maxHeartbeats 2000000 in
theorem b_Pa_apply_166 {ω : q_W} {σ : q_H} {Q : q_R → q_H → Prop} {d mc ms : Nat} {x1 : Int} {x6 : Int} {p : Nat} (hp : p = 16 ∨ p = 29) (r80 : q_r σ 8 0 = 2) (r81 : q_r σ 8 1 = p) (hE : q_E σ) (h : (0 ≤ x1 ∧ x1 < 23) ∧ q_imp ((zT tb_1000003 x1) ≠ 2) ((0 ≤ x1 ∧ x1 < 23) ∧ q_imp ((zT tb_1000003 x1) ≠ 1) ((J ω m_Pa_apply (d + 1) mc ms 0 0 201 [(0, .ref 8)] [.int (zI x6)] σ Q)) ∧ q_imp ((zT tb_1000003 x1) = 1) ((J ω m_Pa_apply (d + 1) mc ms 0 0 201 [(0, .ref 8)] [.int (zI (4 * x6))] σ Q))) ∧ q_imp ((zT tb_1000003 x1) = 2) ((J ω m_Pa_apply (d + 1) mc ms 0 0 201 [(0, .ref 8)] [.int (zI (x6 * x6))] σ Q))) : J ω m_Pa_apply (d + 1) mc ms 0 0 166 [(0, .ref 8), (1, .int (zI x1)), (6, .int (zI x6))] [] σ Q := by
  refine j_getsN (host := "ProofHall") (C := "ProofHall") (n := "PRICE") (dd := "[I") (v := .ref 1000003) (by simp [q_stas]) (List.mem_of_getElem? (i := 926) (by decide +kernel)) d_Pa_apply_166 ?_
  refine j_iload_n d_Pa_apply_169 1 rfl ?_
  obtain ⟨c22, h⟩ := h
  refine zj_ialdO (lst := tb_1000003) (by simp [q_olds, tb_1000003]) (by decide) d_Pa_apply_170 c22 (by decide) ?_
  refine j_iconst (v := zI 2) d_Pa_apply_171 (by decide) ?_
  obtain ⟨h1, h2⟩ := h
  refine zj_icmp_ne 183 d_Pa_apply_172 (by decide) (inR_of _) ⟨by decide, by decide⟩ (fun k23 => ?_) (fun k23 => ?_)
  · have h := h1 k23
    refine j_getsN (host := "ProofHall") (C := "ProofHall") (n := "PRICE") (dd := "[I") (v := .ref 1000003) (by simp [q_stas]) (List.mem_of_getElem? (i := 926) (by decide +kernel)) d_Pa_apply_183 ?_
    refine j_iload_n d_Pa_apply_186 1 rfl ?_
    obtain ⟨c24, h⟩ := h
    refine zj_ialdO (lst := tb_1000003) (by simp [q_olds, tb_1000003]) (by decide) d_Pa_apply_187 c24 (by decide) ?_
    refine j_iconst (v := zI 1) d_Pa_apply_188 (by decide) ?_
    obtain ⟨h1, h2⟩ := h
    refine zj_icmp_ne 199 d_Pa_apply_189 (by decide) (inR_of _) ⟨by decide, by decide⟩ (fun k25 => ?_) (fun k25 => ?_)
    · have h := h1 k25
      refine j_iload d_Pa_apply_199 2 rfl ?_
      exact j_sel [0] rfl h
    · have h := h2 k25
      refine j_iconst (v := zI 4) d_Pa_apply_192 (by decide) ?_
      refine j_iload d_Pa_apply_193 2 rfl ?_
      refine zj_imul (4 * x6) rfl d_Pa_apply_195 ?_
      refine j_goto 201 d_Pa_apply_196 (by decide) ?_
      exact j_sel [0] rfl h
  · have h := h2 k23
    refine j_iload d_Pa_apply_175 2 rfl ?_
    refine j_iload d_Pa_apply_177 2 rfl ?_
    refine zj_imul (x6 * x6) rfl d_Pa_apply_179 ?_
    refine j_goto 201 d_Pa_apply_180 (by decide) ?_
    exact j_sel [0] rfl h
set_option maxHeartbeats 2000000 in
theorem b_Pa_apply_201 {ω : q_W} {σ : q_H} {Q : q_R → q_H → Prop} {d mc ms : Nat} {y0 : Int} {p : Nat} (hp : p = 16 ∨ p = 29) (r80 : q_r σ 8 0 = 2) (r81 : q_r σ 8 1 = p) (hE : q_E σ) (h : inR ((z σ 8 14) + y0) ∧ (Q (.inl none) (zs σ 8 14 (min ((z σ 8 14) + y0) 1501)))) : J ω m_Pa_apply (d + 1) mc ms 0 0 201 [(0, .ref 8)] [.int (zI y0)] σ Q := by
  refine j_istore (L' := [(8, .int (zI y0)), (0, .ref 8)]) d_Pa_apply_201 (by decide) rfl ?_
  refine j_aload_n d_Pa_apply_203 1 rfl ?_
  refine j_aload_n d_Pa_apply_204 1 rfl ?_
  refine zj_getI (z σ 8 14) f_Pa_183 d_Pa_apply_205 (tg_8 hE) (q_okE hE (by decide)) (q_z _ _ _) ?_
  refine j_iload d_Pa_apply_208 0 rfl ?_
  refine zj_iadd ((z σ 8 14) + y0) rfl d_Pa_apply_210 ?_
  refine j_sipush (v := zI 1501) d_Pa_apply_211 (by decide) ?_
  obtain ⟨r26, h⟩ := h
  refine zj_min (List.mem_of_getElem? (i := 928) (by decide +kernel)) d_Pa_apply_214 (Nat.succ_le_succ (Nat.zero_le _)) (Nat.le_of_ble_eq_true rfl) (Nat.zero_le _) (Nat.zero_le _) r26 ⟨by decide, by decide⟩ ?_
  refine zj_putI (g_Pa_183 _) d_Pa_apply_217 (tg_8 hE) (q_okE hE (by decide)) ?_
  exact j_vret d_Pa_apply_220 rfl (Nat.zero_le _) (Nat.zero_le _) h
set_option maxHeartbeats 2000000 in
theorem b_Pa_reduceChoices_0 {ω : q_W} {σ : q_H} {Q : q_R → q_H → Prop} {d mc ms : Nat}  {p : Nat} (hp : p = 16 ∨ p = 29) (r80 : q_r σ 8 0 = 2) (r81 : q_r σ 8 1 = p) (hE : q_E σ) (h : q_imp ((z σ 8 10) ≤ 0) ((Q (.inl none) σ)) ∧ q_imp (0 < (z σ 8 10)) ((J ω m_Pa_topSign d 0 0 0 0 0 [(0, .ref 8)] [] σ (q_ki (fun v τ => J ω m_Pa_reduceChoices (d + 1) mc ms 0 0 11 [(0, .ref 8)] [.int (zI v)] τ Q))))) : J ω m_Pa_reduceChoices (d + 1) mc ms 0 0 0 [(0, .ref 8)] [] σ Q := by
  refine j_aload_n d_Pa_reduceChoices_0 0 rfl ?_
  refine zj_getI (z σ 8 10) f_Pa_177 d_Pa_reduceChoices_1 (tg_8 hE) (q_okE hE (by decide)) (q_z _ _ _) ?_
  obtain ⟨h1, h2⟩ := h
  refine zj_if_le 45 d_Pa_reduceChoices_4 (by decide) (z_R _ _ _) (fun k1 => ?_) (fun k1 => ?_)
  · have h := h1 k1
    exact j_vret d_Pa_reduceChoices_45 rfl (Nat.zero_le _) (Nat.zero_le _) h
  · have h := h2 k1
    refine j_aload_n d_Pa_reduceChoices_7 0 rfl ?_
    refine j_callV m_Pa_topSign [] [] d 0 0 cV_Pa_229 d_Pa_reduceChoices_8 rfl rfl (tg_8 hE) (q_okE hE (by decide)) (Nat.le_of_ble_eq_true rfl) (Nat.le_refl _) (Nat.le_of_ble_eq_true rfl) (Nat.zero_le _) (Nat.zero_le _) h (fun v τ h => ?_) (fun x τ h => ?_)
    · obtain ⟨v, hv, e1, h⟩ := h; cases e1; exact j_sel [0] rfl h
    · obtain ⟨v, hv, e1, h⟩ := h; cases e1
set_option maxHeartbeats 2000000 in
theorem b_Pa_reduceChoices_11 {ω : q_W} {σ : q_H} {Q : q_R → q_H → Prop} {d mc ms : Nat} {y0 : Int} {p : Nat} (hp : p = 16 ∨ p = 29) (r80 : q_r σ 8 0 = 2) (r81 : q_r σ 8 1 = p) (hE : q_E σ) (h : inR y0 ∧ q_imp (y0 ≠ 33) ((Q (.inl none) σ)) ∧ q_imp (y0 = 33) ((J ω m_Pa_apply d 0 0 0 0 0 [(0, .ref 8), (1, .int (zI 22))] [] σ (q_kv (fun τ => J ω m_Pa_reduceChoices (d + 1) mc ms 0 0 22 [(0, .ref 8)] [] τ Q))))) : J ω m_Pa_reduceChoices (d + 1) mc ms 0 0 11 [(0, .ref 8)] [.int (zI y0)] σ Q := by
  refine j_bipush (v := zI 33) d_Pa_reduceChoices_11 (by decide) ?_
  obtain ⟨r2, h⟩ := h
  obtain ⟨h1, h2⟩ := h
  refine zj_icmp_ne 45 d_Pa_reduceChoices_13 (by decide) r2 ⟨by decide, by decide⟩ (fun k3 => ?_) (fun k3 => ?_)
  · have h := h1 k3
    exact j_vret d_Pa_reduceChoices_45 rfl (Nat.zero_le _) (Nat.zero_le _) h
  · have h := h2 k3
    refine j_aload_n d_Pa_reduceChoices_16 0 rfl ?_
    refine j_bipush (v := zI 22) d_Pa_reduceChoices_17 (by decide) ?_
    refine j_callV m_Pa_apply [.int (zI 22)] [] d 0 0 cV_Pa_232 d_Pa_reduceChoices_19 rfl rfl (tg_8 hE) (q_okE hE (by decide)) (Nat.le_of_ble_eq_true rfl) (Nat.le_refl _) (Nat.le_of_ble_eq_true rfl) (Nat.zero_le _) (Nat.zero_le _) h (fun v τ h => ?_) (fun x τ h => ?_)
    · obtain ⟨e1, h⟩ := h; cases e1; exact j_sel [0] rfl h
    · obtain ⟨e1, h⟩ := h; cases e1
set_option maxHeartbeats 2000000 in
theorem b_Pa_reduceChoices_22 {ω : q_W} {σ : q_H} {Q : q_R → q_H → Prop} {d mc ms : Nat}  {p : Nat} (hp : p = 16 ∨ p = 29) (r80 : q_r σ 8 0 = 2) (r81 : q_r σ 8 1 = p) (hE : q_E σ) (h : (J ω m_Pa_reduceChoices (d + 1) mc ms 0 0 0 [(0, .ref 8)] [] (zs (zs σ 8 10 ((z σ 8 10) - 1)) 8 13 ((z σ 8 13) - 1)) Q)) : J ω m_Pa_reduceChoices (d + 1) mc ms 0 0 22 [(0, .ref 8)] [] σ Q := by
  refine j_aload_n d_Pa_reduceChoices_22 0 rfl ?_
  refine j_dup d_Pa_reduceChoices_23 rfl ?_
  refine zj_getI (z σ 8 10) f_Pa_177 d_Pa_reduceChoices_24 (tg_8 hE) (q_okE hE (by decide)) (q_z _ _ _) ?_
  refine j_iconst (v := zI 1) d_Pa_reduceChoices_27 (by decide) ?_
  refine zj_isub ((z σ 8 10) - 1) (by omega) d_Pa_reduceChoices_28 ?_
  refine zj_putI (g_Pa_177 _) d_Pa_reduceChoices_29 (tg_8 hE) (q_okE hE (by decide)) ?_
  refine j_aload_n d_Pa_reduceChoices_32 0 rfl ?_
  refine j_dup d_Pa_reduceChoices_33 rfl ?_
  refine zj_getI (z σ 8 13) f_Pa_174 d_Pa_reduceChoices_34 (tg_8 (zs_E hE)) (q_okE (zs_E hE) (by decide)) (Eq.trans (qs_k (by decide)) (q_z _ _ _)) ?_
  refine j_iconst (v := zI 1) d_Pa_reduceChoices_37 (by decide) ?_
  refine zj_isub ((z σ 8 13) - 1) (by omega) d_Pa_reduceChoices_38 ?_
  refine zj_putI (g_Pa_174 _) d_Pa_reduceChoices_39 (tg_8 (zs_E hE)) (q_okE (zs_E hE) (by decide)) ?_
  refine j_goto 0 d_Pa_reduceChoices_42 (by decide) ?_
  exact j_sel [0] rfl h
set_option maxHeartbeats 2000000 in
theorem b_Pa_finish_0 {ω : q_W} {σ : q_H} {Q : q_R → q_H → Prop} {d mc ms : Nat} {x1 : Int} {p : Nat} (hp : p = 16 ∨ p = 29) (r80 : q_r σ 8 0 = 2) (r81 : q_r σ 8 1 = p) (hE : q_E σ) (h : (J ω m_Pa_finish (d + 1) mc ms 0 0 2 [(0, .ref 8), (2, .int (zI x1))] [] σ Q)) : J ω m_Pa_finish (d + 1) mc ms 0 0 0 [(0, .ref 8), (1, .int (zI x1))] [] σ Q := by
  refine j_iload_n d_Pa_finish_0 1 rfl ?_
  refine j_istore_n (L' := [(2, .int (zI x1)), (0, .ref 8), (1, .int (zI x1))]) d_Pa_finish_1 (by decide) rfl ?_
  exact j_sel [1, 0] rfl h
set_option maxHeartbeats 2000000 in
theorem b_Pa_finish_2 {ω : q_W} {σ : q_H} {Q : q_R → q_H → Prop} {d mc ms : Nat} {x2 : Int} {p : Nat} (hp : p = 16 ∨ p = 29) (r80 : q_r σ 8 0 = 2) (r81 : q_r σ 8 1 = p) (hE : q_E σ) (h : q_imp ((z σ 8 7) ≤ 0) ((J ω m_Pa_capped d 0 0 0 0 0 [(0, .int (zI ((z σ p 8) + x2)))] [] σ (q_ki (fun v τ => J ω m_Pa_finish (d + 1) mc ms 0 0 132 [] [.int (zI v), .ref p] τ Q)))) ∧ q_imp (0 < (z σ 8 7)) ((0 ≤ ((z σ 8 7) - 1) ∧ ((z σ 8 7) - 1) < 32) ∧ (J ω m_Pa_capped d 0 0 0 0 0 [(0, .int (zI ((z σ 13 ((z σ 8 7) - 1).toNat) + x2)))] [] σ (q_ki (fun v τ => J ω m_Pa_finish (d + 1) mc ms 0 0 32 [(0, .ref 8), (3, .int (zI ((z σ 8 7) - 1)))] [.int (zI v), .int (zI ((z σ 8 7) - 1)), .ref 13] τ Q))))) : J ω m_Pa_finish (d + 1) mc ms 0 0 2 [(0, .ref 8), (2, .int (zI x2))] [] σ Q := by
  refine j_aload_n d_Pa_finish_2 0 rfl ?_
  refine zj_getI (z σ 8 7) f_Pa_46 d_Pa_finish_3 (tg_8 hE) (q_okE hE (by decide)) (q_z _ _ _) ?_
  obtain ⟨h1, h2⟩ := h
  refine zj_if_le 116 d_Pa_finish_6 (by decide) (z_R _ _ _) (fun k1 => ?_) (fun k1 => ?_)
  · have h := h1 k1
    refine j_aload_n d_Pa_finish_116 0 rfl ?_
    refine j_getR p f_Pa_37 d_Pa_finish_117 (tg_8 hE) (q_okE hE (by decide)) (r81) (by omega) ?_
    refine j_aload_n d_Pa_finish_120 0 rfl ?_
    refine j_getR p f_Pa_37 d_Pa_finish_121 (tg_8 hE) (q_okE hE (by decide)) (r81) (by omega) ?_
    refine zj_getI (z σ p 8) f_Pa_65 d_Pa_finish_124 (tY_p_0 hE hp) (q_okE hE (by omega)) (q_z _ _ _) ?_
    refine j_iload_n d_Pa_finish_127 1 rfl ?_
    refine zj_iadd ((z σ p 8) + x2) rfl d_Pa_finish_128 ?_
    refine j_callS m_Pa_capped [.int (zI ((z σ p 8) + x2))] [.ref p] d 0 0 cS_Pa_156 d_Pa_finish_129 rfl rfl (Nat.le_of_ble_eq_true rfl) (Nat.le_refl _) (Nat.le_of_ble_eq_true rfl) (Nat.zero_le _) (Nat.zero_le _) h (fun v τ h => ?_) (fun x τ h => ?_)
    · obtain ⟨v, hv, e1, h⟩ := h; cases e1; exact j_sel [] rfl h
    · obtain ⟨v, hv, e1, h⟩ := h; cases e1
  · have h := h2 k1
    refine j_aload_n d_Pa_finish_9 0 rfl ?_
    refine zj_getI (z σ 8 7) f_Pa_46 d_Pa_finish_10 (tg_8 hE) (q_okE hE (by decide)) (q_z _ _ _) ?_
    refine j_iconst (v := zI 1) d_Pa_finish_13 (by decide) ?_
    refine zj_isub ((z σ 8 7) - 1) (by omega) d_Pa_finish_14 ?_
    refine j_istore_n (L' := [(3, .int (zI ((z σ 8 7) - 1))), (0, .ref 8), (2, .int (zI x2))]) d_Pa_finish_15 (by decide) rfl ?_
    refine j_aload_n d_Pa_finish_16 1 rfl ?_
    refine j_getR 13 f_Pa_24 d_Pa_finish_17 (tg_8 hE) (q_okE hE (by decide)) (rf_8_6 hE) (by decide) ?_
    refine j_iload_n d_Pa_finish_20 0 rfl ?_
    refine j_aload_n d_Pa_finish_21 1 rfl ?_
    refine j_getR 13 f_Pa_24 d_Pa_finish_22 (tg_8 hE) (q_okE hE (by decide)) (rf_8_6 hE) (by decide) ?_
    refine j_iload_n d_Pa_finish_25 0 rfl ?_
    obtain ⟨c2, h⟩ := h
    refine zj_iald (z σ 13 ((z σ 8 7) - 1).toNat) d_Pa_finish_26 (tg_13 hE) (q_okE hE (by decide)) c2 (by decide) (q_z _ _ _) ?_
    refine j_iload_n d_Pa_finish_27 2 rfl ?_
    refine zj_iadd ((z σ 13 ((z σ 8 7) - 1).toNat) + x2) rfl d_Pa_finish_28 ?_
    refine j_callS m_Pa_capped [.int (zI ((z σ 13 ((z σ 8 7) - 1).toNat) + x2))] [.int (zI ((z σ 8 7) - 1)), .ref 13] d 0 0 cS_Pa_156 d_Pa_finish_29 rfl rfl (Nat.le_of_ble_eq_true rfl) (Nat.le_refl _) (Nat.le_of_ble_eq_true rfl) (Nat.zero_le _) (Nat.zero_le _) h (fun v τ h => ?_) (fun x τ h => ?_)
    · obtain ⟨v, hv, e1, h⟩ := h; cases e1; exact j_sel [1, 0] rfl h
    · obtain ⟨v, hv, e1, h⟩ := h; cases e1
set_option maxHeartbeats 2000000 in
theorem b_Pa_finish_132 {ω : q_W} {σ : q_H} {Q : q_R → q_H → Prop} {d mc ms : Nat} {y0 : Int} {p : Nat} (hp : p = 16 ∨ p = 29) (r80 : q_r σ 8 0 = 2) (r81 : q_r σ 8 1 = p) (hE : q_E σ) (h : (Q (.inl none) (zs σ p 8 y0))) : J ω m_Pa_finish (d + 1) mc ms 0 0 132 [] [.int (zI y0), .ref p] σ Q := by
  refine zj_putI (g_Pa_65 _) d_Pa_finish_132 (tY_p_0 hE hp) (q_okE hE (by omega)) ?_
  exact j_vret d_Pa_finish_135 rfl (Nat.zero_le _) (Nat.zero_le _) h
set_option maxHeartbeats 2000000 in
theorem b_Pa_finish_32 {ω : q_W} {σ : q_H} {Q : q_R → q_H → Prop} {d mc ms : Nat} {x3 : Int} {y0 : Int} {y1 : Int} {p : Nat} (hp : p = 16 ∨ p = 29) (r80 : q_r σ 8 0 = 2) (r81 : q_r σ 8 1 = p) (hE : q_E σ) (h : (0 ≤ y1 ∧ y1 < 32) ∧ (0 ≤ x3 ∧ x3 < 32) ∧ q_imp ((z σ 9 x3.toNat) ≠ 1) (q_imp ((z σ 9 x3.toNat) ≠ 2) ((J ω m_Pa_finish (d + 1) mc ms 0 0 79 [(0, .ref 8), (3, .int (zI x3))] [] (zs σ 13 y1.toNat y0) Q)) ∧ q_imp ((z σ 9 x3.toNat) = 2) ((0 ≤ (z σ 2 8) ∧ (z σ 2 8) < 4097) ∧ q_imp ((z σ 4 (z σ 2 8).toNat) ≠ 42) ((J ω m_Pa_finish (d + 1) mc ms 0 0 79 [(0, .ref 8), (3, .int (zI x3))] [] (zs σ 13 y1.toNat y0) Q)) ∧ q_imp ((z σ 4 (z σ 2 8).toNat) = 42) ((J ω m_Sc_advance d 0 0 0 0 0 [(0, .ref 2)] [] (zs σ 13 y1.toNat y0) (q_kv (fun τ => J ω m_Pa_finish (d + 1) mc ms 0 0 73 [(0, .ref 8), (3, .int (zI x3))] [] τ Q)))))) ∧ q_imp ((z σ 9 x3.toNat) = 1) ((Q (.inl none) (zs σ 13 y1.toNat y0)))) : J ω m_Pa_finish (d + 1) mc ms 0 0 32 [(0, .ref 8), (3, .int (zI x3))] [.int (zI y0), .int (zI y1), .ref 13] σ Q := by
  obtain ⟨c3, h⟩ := h
  refine zj_iast d_Pa_finish_32 (tg_13 hE) (q_okE hE (by decide)) c3 (by decide) ?_
  refine j_aload_n d_Pa_finish_33 0 rfl ?_
  refine j_getR 9 f_Pa_9 d_Pa_finish_34 (tg_8 (zs_E hE)) (q_okE (zs_E hE) (by decide)) (rf_8_2 (zs_E hE)) (by decide) ?_
  refine j_iload_n d_Pa_finish_37 1 rfl ?_
  obtain ⟨c4, h⟩ := h
  refine zj_iald (z σ 9 x3.toNat) d_Pa_finish_38 (tg_9 (zs_E hE)) (q_okE (zs_E hE) (by decide)) c4 (by decide) (Eq.trans (qs_o (by decide)) (q_z _ _ _)) ?_
  refine j_iconst (v := zI 1) d_Pa_finish_39 (by decide) ?_
  obtain ⟨h1, h2⟩ := h
  refine zj_icmp_ne 44 d_Pa_finish_40 (by decide) (z_R _ _ _) ⟨by decide, by decide⟩ (fun k5 => ?_) (fun k5 => ?_)
  · have h := h1 k5
    refine j_aload_n d_Pa_finish_44 0 rfl ?_
    refine j_getR 9 f_Pa_9 d_Pa_finish_45 (tg_8 (zs_E hE)) (q_okE (zs_E hE) (by decide)) (rf_8_2 (zs_E hE)) (by decide) ?_
    refine j_iload_n d_Pa_finish_48 1 rfl ?_
    refine zj_iald (z σ 9 x3.toNat) d_Pa_finish_49 (tg_9 (zs_E hE)) (q_okE (zs_E hE) (by decide)) c4 (by decide) (Eq.trans (qs_o (by decide)) (q_z _ _ _)) ?_
    refine j_iconst (v := zI 2) d_Pa_finish_50 (by decide) ?_
    obtain ⟨h1, h2⟩ := h
    refine zj_icmp_ne 79 d_Pa_finish_51 (by decide) (z_R _ _ _) ⟨by decide, by decide⟩ (fun k6 => ?_) (fun k6 => ?_)
    · have h := h1 k6
      exact j_sel [0, 1] rfl h
    · have h := h2 k6
      refine j_aload_n d_Pa_finish_54 0 rfl ?_
      refine j_getR 2 f_Pa_33 d_Pa_finish_55 (tg_8 (zs_E hE)) (q_okE (zs_E hE) (by decide)) (Eq.trans (zs_r) (r80)) (by decide) ?_
      obtain ⟨c7, h⟩ := h
      refine j_callV m_Sc_kind [] [] 0 0 0 cV_Pa_75 d_Pa_finish_58 rfl rfl (tg_2 (zs_E hE)) (q_okE (zs_E hE) (by decide)) (Nat.le_of_ble_eq_true rfl) (Nat.succ_le_succ (Nat.zero_le _)) (Nat.le_of_ble_eq_true rfl) (Nat.zero_le _) (Nat.zero_le _) (c_Sc_kind (zs_E hE) c7 (Eq.trans (qs_o (by decide)) (q_z _ _ _)) (Eq.trans (qs_o (by decide)) (q_z _ _ _))) (fun v τ h => ?_) (fun x τ h => absurd h.1 (by simp))
      obtain ⟨e1, e2⟩ := h; cases e1; rw [e2]
      refine j_bipush (v := zI 42) d_Pa_finish_61 (by decide) ?_
      obtain ⟨h1, h2⟩ := h
      refine zj_icmp_ne 79 d_Pa_finish_63 (by decide) (z_R _ _ _) ⟨by decide, by decide⟩ (fun k8 => ?_) (fun k8 => ?_)
      · have h := h1 k8
        exact j_sel [0, 1] rfl h
      · have h := h2 k8
        refine j_aload_n d_Pa_finish_66 0 rfl ?_
        refine j_getR 2 f_Pa_33 d_Pa_finish_67 (tg_8 (zs_E hE)) (q_okE (zs_E hE) (by decide)) (Eq.trans (zs_r) (r80)) (by decide) ?_
        refine j_callV m_Sc_advance [] [] d 0 0 cV_Pa_78 d_Pa_finish_70 rfl rfl (tg_2 (zs_E hE)) (q_okE (zs_E hE) (by decide)) (Nat.le_of_ble_eq_true rfl) (Nat.le_refl _) (Nat.le_of_ble_eq_true rfl) (Nat.zero_le _) (Nat.zero_le _) h (fun v τ h => ?_) (fun x τ h => ?_)
        · obtain ⟨e1, h⟩ := h; cases e1; exact j_sel [0, 1] rfl h
        · obtain ⟨e1, h⟩ := h; cases e1
  · have h := h2 k5
    exact j_vret d_Pa_finish_43 rfl (Nat.zero_le _) (Nat.zero_le _) h
set_option maxHeartbeats 2000000 in
theorem b_Pa_finish_79 {ω : q_W} {σ : q_H} {Q : q_R → q_H → Prop} {d mc ms : Nat} {x3 : Int} {p : Nat} (hp : p = 16 ∨ p = 29) (r80 : q_r σ 8 0 = 2) (r81 : q_r σ 8 1 = p) (hE : q_E σ) (h : (0 ≤ x3 ∧ x3 < 32) ∧ q_imp ((z σ 9 x3.toNat) ≠ 4) ((J ω m_Pa_closeBranch d 0 0 0 0 0 [(0, .ref 8), (1, .int (zI x3))] [] σ (q_ki (fun v τ => J ω m_Pa_finish (d + 1) mc ms 0 0 102 [(0, .ref 8)] [.int (zI v)] τ Q)))) ∧ q_imp ((z σ 9 x3.toNat) = 4) ((J ω m_Pa_closeLoop d 0 0 0 0 0 [(0, .ref 8), (1, .int (zI x3))] [] σ (q_ki (fun v τ => J ω m_Pa_finish (d + 1) mc ms 0 0 94 [(0, .ref 8)] [.int (zI v)] τ Q))))) : J ω m_Pa_finish (d + 1) mc ms 0 0 79 [(0, .ref 8), (3, .int (zI x3))] [] σ Q := by
  refine j_aload_n d_Pa_finish_79 0 rfl ?_
  refine j_getR 9 f_Pa_9 d_Pa_finish_80 (tg_8 hE) (q_okE hE (by decide)) (rf_8_2 hE) (by decide) ?_
  refine j_iload_n d_Pa_finish_83 1 rfl ?_
  obtain ⟨c9, h⟩ := h
  refine zj_iald (z σ 9 x3.toNat) d_Pa_finish_84 (tg_9 hE) (q_okE hE (by decide)) c9 (by decide) (q_z _ _ _) ?_
  refine j_iconst (v := zI 4) d_Pa_finish_85 (by decide) ?_
  obtain ⟨h1, h2⟩ := h
  refine zj_icmp_ne 97 d_Pa_finish_86 (by decide) (z_R _ _ _) ⟨by decide, by decide⟩ (fun k10 => ?_) (fun k10 => ?_)
  · have h := h1 k10
    refine j_aload_n d_Pa_finish_97 0 rfl ?_
    refine j_iload_n d_Pa_finish_98 1 rfl ?_
    refine j_callV m_Pa_closeBranch [.int (zI x3)] [] d 0 0 cV_Pa_165 d_Pa_finish_99 rfl rfl (tg_8 hE) (q_okE hE (by decide)) (Nat.le_of_ble_eq_true rfl) (Nat.le_refl _) (Nat.le_of_ble_eq_true rfl) (Nat.zero_le _) (Nat.zero_le _) h (fun v τ h => ?_) (fun x τ h => ?_)
    · obtain ⟨v, hv, e1, h⟩ := h; cases e1; exact j_sel [0] rfl h
    · obtain ⟨v, hv, e1, h⟩ := h; cases e1
  · have h := h2 k10
    refine j_aload_n d_Pa_finish_89 0 rfl ?_
    refine j_iload_n d_Pa_finish_90 1 rfl ?_
    refine j_callV m_Pa_closeLoop [.int (zI x3)] [] d 0 0 cV_Pa_162 d_Pa_finish_91 rfl rfl (tg_8 hE) (q_okE hE (by decide)) (Nat.le_of_ble_eq_true rfl) (Nat.le_refl _) (Nat.le_of_ble_eq_true rfl) (Nat.zero_le _) (Nat.zero_le _) h (fun v τ h => ?_) (fun x τ h => ?_)
    · obtain ⟨v, hv, e1, h⟩ := h; cases e1; exact j_sel [0] rfl h
    · obtain ⟨v, hv, e1, h⟩ := h; cases e1
set_option maxHeartbeats 2000000 in
theorem b_Pa_finish_73 {ω : q_W} {σ : q_H} {Q : q_R → q_H → Prop} {d mc ms : Nat} {x3 : Int} {p : Nat} (hp : p = 16 ∨ p = 29) (r80 : q_r σ 8 0 = 2) (r81 : q_r σ 8 1 = p) (hE : q_E σ) (h : (J ω m_Pa_goOnWithElse d 0 0 0 0 0 [(0, .ref 8), (1, .int (zI x3))] [] σ (q_kv (fun τ => J ω m_Pa_finish (d + 1) mc ms 0 0 78 [] [] τ Q)))) : J ω m_Pa_finish (d + 1) mc ms 0 0 73 [(0, .ref 8), (3, .int (zI x3))] [] σ Q := by
  refine j_aload_n d_Pa_finish_73 0 rfl ?_
  refine j_iload_n d_Pa_finish_74 1 rfl ?_
  refine j_callV m_Pa_goOnWithElse [.int (zI x3)] [] d 0 0 cV_Pa_159 d_Pa_finish_75 rfl rfl (tg_8 hE) (q_okE hE (by decide)) (Nat.le_of_ble_eq_true rfl) (Nat.le_refl _) (Nat.le_of_ble_eq_true rfl) (Nat.zero_le _) (Nat.zero_le _) h (fun v τ h => ?_) (fun x τ h => ?_)
  · obtain ⟨e1, h⟩ := h; cases e1; exact j_sel [] rfl h
  · obtain ⟨e1, h⟩ := h; cases e1
set_option maxHeartbeats 2000000 in
theorem b_Pa_finish_102 {ω : q_W} {σ : q_H} {Q : q_R → q_H → Prop} {d mc ms : Nat} {y0 : Int} {p : Nat} (hp : p = 16 ∨ p = 29) (r80 : q_r σ 8 0 = 2) (r81 : q_r σ 8 1 = p) (hE : q_E σ) (h : (J ω m_Pa_finish (d + 1) mc ms 0 0 2 [(0, .ref 8), (2, .int (zI y0))] [] (zs σ 8 7 ((z σ 8 7) - 1)) Q)) : J ω m_Pa_finish (d + 1) mc ms 0 0 102 [(0, .ref 8)] [.int (zI y0)] σ Q := by
  refine j_istore_n (L' := [(2, .int (zI y0)), (0, .ref 8)]) d_Pa_finish_102 (by decide) rfl ?_
  refine j_aload_n d_Pa_finish_103 1 rfl ?_
  refine j_dup d_Pa_finish_104 rfl ?_
  refine zj_getI (z σ 8 7) f_Pa_46 d_Pa_finish_105 (tg_8 hE) (q_okE hE (by decide)) (q_z _ _ _) ?_
  refine j_iconst (v := zI 1) d_Pa_finish_108 (by decide) ?_
  refine zj_isub ((z σ 8 7) - 1) (by omega) d_Pa_finish_109 ?_
  refine zj_putI (g_Pa_46 _) d_Pa_finish_110 (tg_8 hE) (q_okE hE (by decide)) ?_
  refine j_goto 2 d_Pa_finish_113 (by decide) ?_
  exact j_sel [1, 0] rfl h
set_option maxHeartbeats 2000000 in
theorem b_Pa_finish_94 {ω : q_W} {σ : q_H} {Q : q_R → q_H → Prop} {d mc ms : Nat} {y0 : Int} {p : Nat} (hp : p = 16 ∨ p = 29) (r80 : q_r σ 8 0 = 2) (r81 : q_r σ 8 1 = p) (hE : q_E σ) (h : (J ω m_Pa_finish (d + 1) mc ms 0 0 102 [(0, .ref 8)] [.int (zI y0)] σ Q)) : J ω m_Pa_finish (d + 1) mc ms 0 0 94 [(0, .ref 8)] [.int (zI y0)] σ Q := by
  refine j_goto 102 d_Pa_finish_94 (by decide) ?_
  exact j_sel [0] rfl h
set_option maxHeartbeats 2000000 in
theorem b_Pa_finish_78 {ω : q_W} {σ : q_H} {Q : q_R → q_H → Prop} {d mc ms : Nat}  {p : Nat} (hp : p = 16 ∨ p = 29) (r80 : q_r σ 8 0 = 2) (r81 : q_r σ 8 1 = p) (hE : q_E σ) (h : (Q (.inl none) σ)) : J ω m_Pa_finish (d + 1) mc ms 0 0 78 [] [] σ Q := by
  exact j_vret d_Pa_finish_78 rfl (Nat.zero_le _) (Nat.zero_le _) h
set_option maxHeartbeats 2000000 in
theorem b_Pa_capped_0 {ω : q_W} {σ : q_H} {Q : q_R → q_H → Prop} {d mc ms : Nat} {x0 : Int}  (hE : q_E σ) (h : inR x0 ∧ (Q (.inl (some (.int (zI (min x0 1501))))) σ)) : J ω m_Pa_capped (d + 1) mc ms 0 0 0 [(0, .int (zI x0))] [] σ Q := by
  refine j_iload_n d_Pa_capped_0 0 rfl ?_
  refine j_sipush (v := zI 1501) d_Pa_capped_1 (by decide) ?_
  obtain ⟨r1, h⟩ := h
  refine zj_min (List.mem_of_getElem? (i := 928) (by decide +kernel)) d_Pa_capped_4 (Nat.succ_le_succ (Nat.zero_le _)) (Nat.le_of_ble_eq_true rfl) (Nat.zero_le _) (Nat.zero_le _) r1 ⟨by decide, by decide⟩ ?_
  exact zj_iret d_Pa_capped_7 rfl (Nat.zero_le _) (Nat.zero_le _) h
set_option maxHeartbeats 2000000 in
theorem b_Pa_goOnWithElse_0 {ω : q_W} {σ : q_H} {Q : q_R → q_H → Prop} {d mc ms : Nat} {x1 : Int} {p : Nat} (hp : p = 16 ∨ p = 29) (r80 : q_r σ 8 0 = 2) (r81 : q_r σ 8 1 = p) (hE : q_E σ) (h : (J ω m_Pr_addStep d 0 0 0 0 0 [(0, .ref p), (1, .int (zI 5)), (2, .int (zI 0)), (3, .int (zI (z σ p 17)))] [] σ (q_ki (fun v τ => J ω m_Pa_goOnWithElse (d + 1) mc ms 0 0 16 [(0, .ref 8), (1, .int (zI x1))] [.int (zI v)] τ Q)))) : J ω m_Pa_goOnWithElse (d + 1) mc ms 0 0 0 [(0, .ref 8), (1, .int (zI x1))] [] σ Q := by
  refine j_aload_n d_Pa_goOnWithElse_0 0 rfl ?_
  refine j_getR p f_Pa_37 d_Pa_goOnWithElse_1 (tg_8 hE) (q_okE hE (by decide)) (r81) (by omega) ?_
  refine j_iconst (v := zI 5) d_Pa_goOnWithElse_4 (by decide) ?_
  refine j_iconst (v := zI 0) d_Pa_goOnWithElse_5 (by decide) ?_
  refine j_aload_n d_Pa_goOnWithElse_6 0 rfl ?_
  refine j_getR p f_Pa_37 d_Pa_goOnWithElse_7 (tg_8 hE) (q_okE hE (by decide)) (r81) (by omega) ?_
  refine zj_getI (z σ p 17) f_Pa_136 d_Pa_goOnWithElse_10 (tY_p_0 hE hp) (q_okE hE (by omega)) (q_z _ _ _) ?_
  refine j_callV m_Pr_addStep [.int (zI 5), .int (zI 0), .int (zI (z σ p 17))] [] d 0 0 cV_Pa_143 d_Pa_goOnWithElse_13 rfl rfl (tY_p_0 hE hp) (q_okE hE (by omega)) (Nat.le_of_ble_eq_true rfl) (Nat.le_refl _) (Nat.le_of_ble_eq_true rfl) (Nat.zero_le _) (Nat.zero_le _) h (fun v τ h => ?_) (fun x τ h => ?_)
  · obtain ⟨v, hv, e1, h⟩ := h; cases e1; exact j_sel [0, 1] rfl h
  · obtain ⟨v, hv, e1, h⟩ := h; cases e1
set_option maxHeartbeats 2000000 in
theorem b_Pa_goOnWithElse_16 {ω : q_W} {σ : q_H} {Q : q_R → q_H → Prop} {d mc ms : Nat} {x1 : Int} {y0 : Int} {p : Nat} (hp : p = 16 ∨ p = 29) (r80 : q_r σ 8 0 = 2) (r81 : q_r σ 8 1 = p) (hE : q_E σ) (h : (0 ≤ x1 ∧ x1 < 32) ∧ (0 ≤ (z σ 10 x1.toNat) ∧ (z σ 10 x1.toNat) < 2048) ∧ (Q (.inl none) (zs (zs (zs σ (p + 9) (z σ 10 x1.toNat).toNat (z σ p 11)) 10 x1.toNat y0) 9 x1.toNat 3))) : J ω m_Pa_goOnWithElse (d + 1) mc ms 0 0 16 [(0, .ref 8), (1, .int (zI x1))] [.int (zI y0)] σ Q := by
  refine j_istore_n (L' := [(2, .int (zI y0)), (0, .ref 8), (1, .int (zI x1))]) d_Pa_goOnWithElse_16 (by decide) rfl ?_
  refine j_aload_n d_Pa_goOnWithElse_17 1 rfl ?_
  refine j_getR p f_Pa_37 d_Pa_goOnWithElse_18 (tg_8 hE) (q_okE hE (by decide)) (r81) (by omega) ?_
  refine j_getR (p + 9) f_Pa_153 d_Pa_goOnWithElse_21 (tY_p_0 hE hp) (q_okE hE (by omega)) (rY_p_16 hE hp) (by omega) ?_
  refine j_aload_n d_Pa_goOnWithElse_24 1 rfl ?_
  refine j_getR 10 f_Pa_15 d_Pa_goOnWithElse_25 (tg_8 hE) (q_okE hE (by decide)) (rf_8_3 hE) (by decide) ?_
  refine j_iload_n d_Pa_goOnWithElse_28 2 rfl ?_
  obtain ⟨c1, h⟩ := h
  refine zj_iald (z σ 10 x1.toNat) d_Pa_goOnWithElse_29 (tg_10 hE) (q_okE hE (by decide)) c1 (by decide) (q_z _ _ _) ?_
  refine j_aload_n d_Pa_goOnWithElse_30 1 rfl ?_
  refine j_getR p f_Pa_37 d_Pa_goOnWithElse_31 (tg_8 hE) (q_okE hE (by decide)) (r81) (by omega) ?_
  refine zj_getI (z σ p 11) f_Pa_168 d_Pa_goOnWithElse_34 (tY_p_0 hE hp) (q_okE hE (by omega)) (q_z _ _ _) ?_
  obtain ⟨c2, h⟩ := h
  refine zj_iast d_Pa_goOnWithElse_37 (tY_p_9 hE hp) (q_okE hE (by omega)) c2 (by decide) ?_
  refine j_aload_n d_Pa_goOnWithElse_38 1 rfl ?_
  refine j_getR 10 f_Pa_15 d_Pa_goOnWithElse_39 (tg_8 (zs_E hE)) (q_okE (zs_E hE) (by decide)) (rf_8_3 (zs_E hE)) (by decide) ?_
  refine j_iload_n d_Pa_goOnWithElse_42 2 rfl ?_
  refine j_iload_n d_Pa_goOnWithElse_43 0 rfl ?_
  refine zj_iast d_Pa_goOnWithElse_44 (tg_10 (zs_E hE)) (q_okE (zs_E hE) (by decide)) c1 (by decide) ?_
  refine j_aload_n d_Pa_goOnWithElse_45 1 rfl ?_
  refine j_getR 9 f_Pa_9 d_Pa_goOnWithElse_46 (tg_8 (zs_E (zs_E hE))) (q_okE (zs_E (zs_E hE)) (by decide)) (rf_8_2 (zs_E (zs_E hE))) (by decide) ?_
  refine j_iload_n d_Pa_goOnWithElse_49 2 rfl ?_
  refine j_iconst (v := zI 3) d_Pa_goOnWithElse_50 (by decide) ?_
  refine zj_iast d_Pa_goOnWithElse_51 (tg_9 (zs_E (zs_E hE))) (q_okE (zs_E (zs_E hE)) (by decide)) c1 (by decide) ?_
  exact j_vret d_Pa_goOnWithElse_52 rfl (Nat.zero_le _) (Nat.zero_le _) h
set_option maxHeartbeats 2000000 in
theorem b_Pa_closeLoop_0 {ω : q_W} {σ : q_H} {Q : q_R → q_H → Prop} {d mc ms : Nat} {x1 : Int} {p : Nat} (hp : p = 16 ∨ p = 29) (r80 : q_r σ 8 0 = 2) (r81 : q_r σ 8 1 = p) (hE : q_E σ) (h : (J ω m_Pr_addStep d 0 0 0 0 0 [(0, .ref p), (1, .int (zI 9)), (2, .int (zI 0)), (3, .int (zI (z σ p 17)))] [] σ (q_ki (fun v τ => J ω m_Pa_closeLoop (d + 1) mc ms 0 0 17 [(0, .ref 8), (1, .int (zI x1))] [.int (zI v)] τ Q)))) : J ω m_Pa_closeLoop (d + 1) mc ms 0 0 0 [(0, .ref 8), (1, .int (zI x1))] [] σ Q := by
  refine j_aload_n d_Pa_closeLoop_0 0 rfl ?_
  refine j_getR p f_Pa_37 d_Pa_closeLoop_1 (tg_8 hE) (q_okE hE (by decide)) (r81) (by omega) ?_
  refine j_bipush (v := zI 9) d_Pa_closeLoop_4 (by decide) ?_
  refine j_iconst (v := zI 0) d_Pa_closeLoop_6 (by decide) ?_
  refine j_aload_n d_Pa_closeLoop_7 0 rfl ?_
  refine j_getR p f_Pa_37 d_Pa_closeLoop_8 (tg_8 hE) (q_okE hE (by decide)) (r81) (by omega) ?_
  refine zj_getI (z σ p 17) f_Pa_136 d_Pa_closeLoop_11 (tY_p_0 hE hp) (q_okE hE (by omega)) (q_z _ _ _) ?_
  refine j_callV m_Pr_addStep [.int (zI 9), .int (zI 0), .int (zI (z σ p 17))] [] d 0 0 cV_Pa_143 d_Pa_closeLoop_14 rfl rfl (tY_p_0 hE hp) (q_okE hE (by omega)) (Nat.le_of_ble_eq_true rfl) (Nat.le_refl _) (Nat.le_of_ble_eq_true rfl) (Nat.zero_le _) (Nat.zero_le _) h (fun v τ h => ?_) (fun x τ h => ?_)
  · obtain ⟨v, hv, e1, h⟩ := h; cases e1; exact j_sel [0, 1] rfl h
  · obtain ⟨v, hv, e1, h⟩ := h; cases e1
set_option maxHeartbeats 2000000 in
theorem b_Pa_closeLoop_17 {ω : q_W} {σ : q_H} {Q : q_R → q_H → Prop} {d mc ms : Nat} {x1 : Int} {y0 : Int} {p : Nat} (hp : p = 16 ∨ p = 29) (r80 : q_r σ 8 0 = 2) (r81 : q_r σ 8 1 = p) (hE : q_E σ) (h : (0 ≤ x1 ∧ x1 < 32) ∧ (0 ≤ y0 ∧ y0 < 2048) ∧ (0 ≤ (z σ 10 x1.toNat) ∧ (z σ 10 x1.toNat) < 2048) ∧ (J ω m_Pa_capped d 0 0 0 0 0 [(0, .int (zI (((z σ 11 x1.toNat) * (((z σ 12 x1.toNat) + (z σ 13 x1.toNat)) + (8 * (z σ p 4)))) + (z σ 12 x1.toNat))))] [] (zs (zs (zs σ (p + 9) y0.toNat (z σ 10 x1.toNat)) (p + 9) (z σ 10 x1.toNat).toNat (z σ p 11)) 8 8 ((z σ 8 8) - 1)) (q_ki (fun v τ => J ω m_Pa_closeLoop (d + 1) mc ms 0 0 105 [] [.int (zI v)] τ Q)))) : J ω m_Pa_closeLoop (d + 1) mc ms 0 0 17 [(0, .ref 8), (1, .int (zI x1))] [.int (zI y0)] σ Q := by
  refine j_istore_n (L' := [(2, .int (zI y0)), (0, .ref 8), (1, .int (zI x1))]) d_Pa_closeLoop_17 (by decide) rfl ?_
  refine j_aload_n d_Pa_closeLoop_18 1 rfl ?_
  refine j_getR p f_Pa_37 d_Pa_closeLoop_19 (tg_8 hE) (q_okE hE (by decide)) (r81) (by omega) ?_
  refine j_getR (p + 9) f_Pa_153 d_Pa_closeLoop_22 (tY_p_0 hE hp) (q_okE hE (by omega)) (rY_p_16 hE hp) (by omega) ?_
  refine j_iload_n d_Pa_closeLoop_25 0 rfl ?_
  refine j_aload_n d_Pa_closeLoop_26 1 rfl ?_
  refine j_getR 10 f_Pa_15 d_Pa_closeLoop_27 (tg_8 hE) (q_okE hE (by decide)) (rf_8_3 hE) (by decide) ?_
  refine j_iload_n d_Pa_closeLoop_30 2 rfl ?_
  obtain ⟨c1, h⟩ := h
  refine zj_iald (z σ 10 x1.toNat) d_Pa_closeLoop_31 (tg_10 hE) (q_okE hE (by decide)) c1 (by decide) (q_z _ _ _) ?_
  obtain ⟨c2, h⟩ := h
  refine zj_iast d_Pa_closeLoop_32 (tY_p_9 hE hp) (q_okE hE (by omega)) c2 (by decide) ?_
  refine j_aload_n d_Pa_closeLoop_33 1 rfl ?_
  refine j_getR p f_Pa_37 d_Pa_closeLoop_34 (tg_8 (zs_E hE)) (q_okE (zs_E hE) (by decide)) (Eq.trans (zs_r) (r81)) (by omega) ?_
  refine j_getR (p + 9) f_Pa_153 d_Pa_closeLoop_37 (tY_p_0 (zs_E hE) hp) (q_okE (zs_E hE) (by omega)) (rY_p_16 (zs_E hE) hp) (by omega) ?_
  refine j_aload_n d_Pa_closeLoop_40 1 rfl ?_
  refine j_getR 10 f_Pa_15 d_Pa_closeLoop_41 (tg_8 (zs_E hE)) (q_okE (zs_E hE) (by decide)) (rf_8_3 (zs_E hE)) (by decide) ?_
  refine j_iload_n d_Pa_closeLoop_44 2 rfl ?_
  refine zj_iald (z σ 10 x1.toNat) d_Pa_closeLoop_45 (tg_10 (zs_E hE)) (q_okE (zs_E hE) (by decide)) c1 (by decide) (Eq.trans (qs_o (by omega)) (q_z _ _ _)) ?_
  refine j_aload_n d_Pa_closeLoop_46 1 rfl ?_
  refine j_getR p f_Pa_37 d_Pa_closeLoop_47 (tg_8 (zs_E hE)) (q_okE (zs_E hE) (by decide)) (Eq.trans (zs_r) (r81)) (by omega) ?_
  refine zj_getI (z σ p 11) f_Pa_168 d_Pa_closeLoop_50 (tY_p_0 (zs_E hE) hp) (q_okE (zs_E hE) (by omega)) (Eq.trans (qs_o (by omega)) (q_z _ _ _)) ?_
  obtain ⟨c3, h⟩ := h
  refine zj_iast d_Pa_closeLoop_53 (tY_p_9 (zs_E hE) hp) (q_okE (zs_E hE) (by omega)) c3 (by decide) ?_
  refine j_aload_n d_Pa_closeLoop_54 1 rfl ?_
  refine j_dup d_Pa_closeLoop_55 rfl ?_
  refine zj_getI (z σ 8 8) f_Pa_50 d_Pa_closeLoop_56 (tg_8 (zs_E (zs_E hE))) (q_okE (zs_E (zs_E hE)) (by decide)) (Eq.trans (qs_o (by omega)) (Eq.trans (qs_o (by omega)) (q_z _ _ _))) ?_
  refine j_iconst (v := zI 1) d_Pa_closeLoop_59 (by decide) ?_
  refine zj_isub ((z σ 8 8) - 1) (by omega) d_Pa_closeLoop_60 ?_
  refine zj_putI (g_Pa_50 _) d_Pa_closeLoop_61 (tg_8 (zs_E (zs_E hE))) (q_okE (zs_E (zs_E hE)) (by decide)) ?_
  refine j_aload_n d_Pa_closeLoop_64 1 rfl ?_
  refine j_getR 11 f_Pa_18 d_Pa_closeLoop_65 (tg_8 (zs_E (zs_E (zs_E hE)))) (q_okE (zs_E (zs_E (zs_E hE))) (by decide)) (rf_8_4 (zs_E (zs_E (zs_E hE)))) (by decide) ?_
  refine j_iload_n d_Pa_closeLoop_68 2 rfl ?_
  refine zj_iald (z σ 11 x1.toNat) d_Pa_closeLoop_69 (tg_11 (zs_E (zs_E (zs_E hE)))) (q_okE (zs_E (zs_E (zs_E hE))) (by decide)) c1 (by decide) (Eq.trans (qs_o (by decide)) (Eq.trans (qs_o (by omega)) (Eq.trans (qs_o (by omega)) (q_z _ _ _)))) ?_
  refine j_aload_n d_Pa_closeLoop_70 1 rfl ?_
  refine j_getR 12 f_Pa_21 d_Pa_closeLoop_71 (tg_8 (zs_E (zs_E (zs_E hE)))) (q_okE (zs_E (zs_E (zs_E hE))) (by decide)) (rf_8_5 (zs_E (zs_E (zs_E hE)))) (by decide) ?_
  refine j_iload_n d_Pa_closeLoop_74 2 rfl ?_
  refine zj_iald (z σ 12 x1.toNat) d_Pa_closeLoop_75 (tg_12 (zs_E (zs_E (zs_E hE)))) (q_okE (zs_E (zs_E (zs_E hE))) (by decide)) c1 (by decide) (Eq.trans (qs_o (by decide)) (Eq.trans (qs_o (by omega)) (Eq.trans (qs_o (by omega)) (q_z _ _ _)))) ?_
  refine j_aload_n d_Pa_closeLoop_76 1 rfl ?_
  refine j_getR 13 f_Pa_24 d_Pa_closeLoop_77 (tg_8 (zs_E (zs_E (zs_E hE)))) (q_okE (zs_E (zs_E (zs_E hE))) (by decide)) (rf_8_6 (zs_E (zs_E (zs_E hE)))) (by decide) ?_
  refine j_iload_n d_Pa_closeLoop_80 2 rfl ?_
  refine zj_iald (z σ 13 x1.toNat) d_Pa_closeLoop_81 (tg_13 (zs_E (zs_E (zs_E hE)))) (q_okE (zs_E (zs_E (zs_E hE))) (by decide)) c1 (by decide) (Eq.trans (qs_o (by decide)) (Eq.trans (qs_o (by omega)) (Eq.trans (qs_o (by omega)) (q_z _ _ _)))) ?_
  refine zj_iadd ((z σ 12 x1.toNat) + (z σ 13 x1.toNat)) rfl d_Pa_closeLoop_82 ?_
  refine j_bipush (v := zI 8) d_Pa_closeLoop_83 (by decide) ?_
  refine j_aload_n d_Pa_closeLoop_85 1 rfl ?_
  refine j_getR p f_Pa_37 d_Pa_closeLoop_86 (tg_8 (zs_E (zs_E (zs_E hE)))) (q_okE (zs_E (zs_E (zs_E hE))) (by decide)) (Eq.trans (zs_r) (Eq.trans (zs_r) (Eq.trans (zs_r) (r81)))) (by omega) ?_
  refine zj_getI (z σ p 4) f_Pa_171 d_Pa_closeLoop_89 (tY_p_0 (zs_E (zs_E (zs_E hE))) hp) (q_okE (zs_E (zs_E (zs_E hE))) (by omega)) (Eq.trans (qs_o (by omega)) (Eq.trans (qs_o (by omega)) (Eq.trans (qs_o (by omega)) (q_z _ _ _)))) ?_
  refine zj_imul (8 * (z σ p 4)) rfl d_Pa_closeLoop_92 ?_
  refine zj_iadd (((z σ 12 x1.toNat) + (z σ 13 x1.toNat)) + (8 * (z σ p 4))) rfl d_Pa_closeLoop_93 ?_
  refine zj_imul ((z σ 11 x1.toNat) * (((z σ 12 x1.toNat) + (z σ 13 x1.toNat)) + (8 * (z σ p 4)))) rfl d_Pa_closeLoop_94 ?_
  refine j_aload_n d_Pa_closeLoop_95 1 rfl ?_
  refine j_getR 12 f_Pa_21 d_Pa_closeLoop_96 (tg_8 (zs_E (zs_E (zs_E hE)))) (q_okE (zs_E (zs_E (zs_E hE))) (by decide)) (rf_8_5 (zs_E (zs_E (zs_E hE)))) (by decide) ?_
  refine j_iload_n d_Pa_closeLoop_99 2 rfl ?_
  refine zj_iald (z σ 12 x1.toNat) d_Pa_closeLoop_100 (tg_12 (zs_E (zs_E (zs_E hE)))) (q_okE (zs_E (zs_E (zs_E hE))) (by decide)) c1 (by decide) (Eq.trans (qs_o (by decide)) (Eq.trans (qs_o (by omega)) (Eq.trans (qs_o (by omega)) (q_z _ _ _)))) ?_
  refine zj_iadd (((z σ 11 x1.toNat) * (((z σ 12 x1.toNat) + (z σ 13 x1.toNat)) + (8 * (z σ p 4)))) + (z σ 12 x1.toNat)) rfl d_Pa_closeLoop_101 ?_
  refine j_callS m_Pa_capped [.int (zI (((z σ 11 x1.toNat) * (((z σ 12 x1.toNat) + (z σ 13 x1.toNat)) + (8 * (z σ p 4)))) + (z σ 12 x1.toNat)))] [] d 0 0 cS_Pa_156 d_Pa_closeLoop_102 rfl rfl (Nat.le_of_ble_eq_true rfl) (Nat.le_refl _) (Nat.le_of_ble_eq_true rfl) (Nat.zero_le _) (Nat.zero_le _) h (fun v τ h => ?_) (fun x τ h => ?_)
  · obtain ⟨v, hv, e1, h⟩ := h; cases e1; exact j_sel [] rfl h
  · obtain ⟨v, hv, e1, h⟩ := h; cases e1
set_option maxHeartbeats 2000000 in
theorem b_Pa_closeLoop_105 {ω : q_W} {σ : q_H} {Q : q_R → q_H → Prop} {d mc ms : Nat} {y0 : Int} {p : Nat} (hp : p = 16 ∨ p = 29) (r80 : q_r σ 8 0 = 2) (r81 : q_r σ 8 1 = p) (hE : q_E σ) (h : (Q (.inl (some (.int (zI y0)))) σ)) : J ω m_Pa_closeLoop (d + 1) mc ms 0 0 105 [] [.int (zI y0)] σ Q := by
  exact zj_iret d_Pa_closeLoop_105 rfl (Nat.zero_le _) (Nat.zero_le _) h
set_option maxHeartbeats 2000000 in
theorem b_Pa_closeBranch_0 {ω : q_W} {σ : q_H} {Q : q_R → q_H → Prop} {d mc ms : Nat} {x1 : Int} {p : Nat} (hp : p = 16 ∨ p = 29) (r80 : q_r σ 8 0 = 2) (r81 : q_r σ 8 1 = p) (hE : q_E σ) (h : (0 ≤ x1 ∧ x1 < 32) ∧ (J ω m_Pr_addStep d 0 0 0 0 0 [(0, .ref p), (1, .int (zI 6)), (2, .int (zI 0)), (3, .int (zI (z σ p 17)))] [] σ (q_ki (fun v τ => J ω m_Pa_closeBranch (d + 1) mc ms 0 0 30 [(0, .ref 8), (1, .int (zI x1))] [.int (zI v), .int (zI (z σ 10 x1.toNat)), .ref (p + 9)] τ Q)))) : J ω m_Pa_closeBranch (d + 1) mc ms 0 0 0 [(0, .ref 8), (1, .int (zI x1))] [] σ Q := by
  refine j_aload_n d_Pa_closeBranch_0 0 rfl ?_
  refine j_getR p f_Pa_37 d_Pa_closeBranch_1 (tg_8 hE) (q_okE hE (by decide)) (r81) (by omega) ?_
  refine j_getR (p + 9) f_Pa_153 d_Pa_closeBranch_4 (tY_p_0 hE hp) (q_okE hE (by omega)) (rY_p_16 hE hp) (by omega) ?_
  refine j_aload_n d_Pa_closeBranch_7 0 rfl ?_
  refine j_getR 10 f_Pa_15 d_Pa_closeBranch_8 (tg_8 hE) (q_okE hE (by decide)) (rf_8_3 hE) (by decide) ?_
  refine j_iload_n d_Pa_closeBranch_11 1 rfl ?_
  obtain ⟨c1, h⟩ := h
  refine zj_iald (z σ 10 x1.toNat) d_Pa_closeBranch_12 (tg_10 hE) (q_okE hE (by decide)) c1 (by decide) (q_z _ _ _) ?_
  refine j_aload_n d_Pa_closeBranch_13 0 rfl ?_
  refine j_getR p f_Pa_37 d_Pa_closeBranch_14 (tg_8 hE) (q_okE hE (by decide)) (r81) (by omega) ?_
  refine j_bipush (v := zI 6) d_Pa_closeBranch_17 (by decide) ?_
  refine j_iconst (v := zI 0) d_Pa_closeBranch_19 (by decide) ?_
  refine j_aload_n d_Pa_closeBranch_20 0 rfl ?_
  refine j_getR p f_Pa_37 d_Pa_closeBranch_21 (tg_8 hE) (q_okE hE (by decide)) (r81) (by omega) ?_
  refine zj_getI (z σ p 17) f_Pa_136 d_Pa_closeBranch_24 (tY_p_0 hE hp) (q_okE hE (by omega)) (q_z _ _ _) ?_
  refine j_callV m_Pr_addStep [.int (zI 6), .int (zI 0), .int (zI (z σ p 17))] [.int (zI (z σ 10 x1.toNat)), .ref (p + 9)] d 0 0 cV_Pa_143 d_Pa_closeBranch_27 rfl rfl (tY_p_0 hE hp) (q_okE hE (by omega)) (Nat.le_of_ble_eq_true rfl) (Nat.le_refl _) (Nat.le_of_ble_eq_true rfl) (Nat.zero_le _) (Nat.zero_le _) h (fun v τ h => ?_) (fun x τ h => ?_)
  · obtain ⟨v, hv, e1, h⟩ := h; cases e1; exact j_sel [0, 1] rfl h
  · obtain ⟨v, hv, e1, h⟩ := h; cases e1
set_option maxHeartbeats 2000000 in
theorem b_Pa_closeBranch_30 {ω : q_W} {σ : q_H} {Q : q_R → q_H → Prop} {d mc ms : Nat} {x1 : Int} {y0 : Int} {y1 : Int} {p : Nat} (hp : p = 16 ∨ p = 29) (r80 : q_r σ 8 0 = 2) (r81 : q_r σ 8 1 = p) (hE : q_E σ) (h : (0 ≤ y1 ∧ y1 < 2048) ∧ (0 ≤ x1 ∧ x1 < 32) ∧ (J ω m_Pa_capped d 0 0 0 0 0 [(0, .int (zI (((z σ 12 x1.toNat) + (z σ 13 x1.toNat)) + (8 * (z σ p 4)))))] [] (zs σ (p + 9) y1.toNat y0) (q_ki (fun v τ => J ω m_Pa_closeBranch (d + 1) mc ms 0 0 58 [] [.int (zI v)] τ Q)))) : J ω m_Pa_closeBranch (d + 1) mc ms 0 0 30 [(0, .ref 8), (1, .int (zI x1))] [.int (zI y0), .int (zI y1), .ref (p + 9)] σ Q := by
  obtain ⟨c2, h⟩ := h
  refine zj_iast d_Pa_closeBranch_30 (tY_p_9 hE hp) (q_okE hE (by omega)) c2 (by decide) ?_
  refine j_aload_n d_Pa_closeBranch_31 0 rfl ?_
  refine j_getR 12 f_Pa_21 d_Pa_closeBranch_32 (tg_8 (zs_E hE)) (q_okE (zs_E hE) (by decide)) (rf_8_5 (zs_E hE)) (by decide) ?_
  refine j_iload_n d_Pa_closeBranch_35 1 rfl ?_
  obtain ⟨c3, h⟩ := h
  refine zj_iald (z σ 12 x1.toNat) d_Pa_closeBranch_36 (tg_12 (zs_E hE)) (q_okE (zs_E hE) (by decide)) c3 (by decide) (Eq.trans (qs_o (by omega)) (q_z _ _ _)) ?_
  refine j_aload_n d_Pa_closeBranch_37 0 rfl ?_
  refine j_getR 13 f_Pa_24 d_Pa_closeBranch_38 (tg_8 (zs_E hE)) (q_okE (zs_E hE) (by decide)) (rf_8_6 (zs_E hE)) (by decide) ?_
  refine j_iload_n d_Pa_closeBranch_41 1 rfl ?_
  refine zj_iald (z σ 13 x1.toNat) d_Pa_closeBranch_42 (tg_13 (zs_E hE)) (q_okE (zs_E hE) (by decide)) c3 (by decide) (Eq.trans (qs_o (by omega)) (q_z _ _ _)) ?_
  refine zj_iadd ((z σ 12 x1.toNat) + (z σ 13 x1.toNat)) rfl d_Pa_closeBranch_43 ?_
  refine j_bipush (v := zI 8) d_Pa_closeBranch_44 (by decide) ?_
  refine j_aload_n d_Pa_closeBranch_46 0 rfl ?_
  refine j_getR p f_Pa_37 d_Pa_closeBranch_47 (tg_8 (zs_E hE)) (q_okE (zs_E hE) (by decide)) (Eq.trans (zs_r) (r81)) (by omega) ?_
  refine zj_getI (z σ p 4) f_Pa_171 d_Pa_closeBranch_50 (tY_p_0 (zs_E hE) hp) (q_okE (zs_E hE) (by omega)) (Eq.trans (qs_o (by omega)) (q_z _ _ _)) ?_
  refine zj_imul (8 * (z σ p 4)) rfl d_Pa_closeBranch_53 ?_
  refine zj_iadd (((z σ 12 x1.toNat) + (z σ 13 x1.toNat)) + (8 * (z σ p 4))) rfl d_Pa_closeBranch_54 ?_
  refine j_callS m_Pa_capped [.int (zI (((z σ 12 x1.toNat) + (z σ 13 x1.toNat)) + (8 * (z σ p 4))))] [] d 0 0 cS_Pa_156 d_Pa_closeBranch_55 rfl rfl (Nat.le_of_ble_eq_true rfl) (Nat.le_refl _) (Nat.le_of_ble_eq_true rfl) (Nat.zero_le _) (Nat.zero_le _) h (fun v τ h => ?_) (fun x τ h => ?_)
  · obtain ⟨v, hv, e1, h⟩ := h; cases e1; exact j_sel [] rfl h
  · obtain ⟨v, hv, e1, h⟩ := h; cases e1
set_option maxHeartbeats 2000000 in
theorem b_Pa_closeBranch_58 {ω : q_W} {σ : q_H} {Q : q_R → q_H → Prop} {d mc ms : Nat} {y0 : Int} {p : Nat} (hp : p = 16 ∨ p = 29) (r80 : q_r σ 8 0 = 2) (r81 : q_r σ 8 1 = p) (hE : q_E σ) (h : (Q (.inl (some (.int (zI y0)))) σ)) : J ω m_Pa_closeBranch (d + 1) mc ms 0 0 58 [] [.int (zI y0)] σ Q := by
  exact zj_iret d_Pa_closeBranch_58 rfl (Nat.zero_le _) (Nat.zero_le _) h
set_option maxHeartbeats 2000000 in
theorem b_Pa_fork_0 {ω : q_W} {σ : q_H} {Q : q_R → q_H → Prop} {d mc ms : Nat}  {p : Nat} (hp : p = 16 ∨ p = 29) (r80 : q_r σ 8 0 = 2) (r81 : q_r σ 8 1 = p) (hE : q_E σ) (h : (0 ≤ (z σ 2 8) ∧ (z σ 2 8) < 4097) ∧ q_imp ((z σ 4 (z σ 2 8).toNat) ≠ 43) ((J ω m_Pa_fork (d + 1) mc ms 0 0 17 [(0, .ref 8)] [.int (zI 0)] σ Q)) ∧ q_imp ((z σ 4 (z σ 2 8).toNat) = 43) ((J ω m_Pa_fork (d + 1) mc ms 0 0 17 [(0, .ref 8)] [.int (zI 1)] σ Q))) : J ω m_Pa_fork (d + 1) mc ms 0 0 0 [(0, .ref 8)] [] σ Q := by
  refine j_aload_n d_Pa_fork_0 0 rfl ?_
  refine j_getR 2 f_Pa_33 d_Pa_fork_1 (tg_8 hE) (q_okE hE (by decide)) (r80) (by decide) ?_
  obtain ⟨c1, h⟩ := h
  refine j_callV m_Sc_kind [] [] 0 0 0 cV_Pa_75 d_Pa_fork_4 rfl rfl (tg_2 hE) (q_okE hE (by decide)) (Nat.le_of_ble_eq_true rfl) (Nat.succ_le_succ (Nat.zero_le _)) (Nat.le_of_ble_eq_true rfl) (Nat.zero_le _) (Nat.zero_le _) (c_Sc_kind hE c1 (q_z _ _ _) (q_z _ _ _)) (fun v τ h => ?_) (fun x τ h => absurd h.1 (by simp))
  obtain ⟨e1, e2⟩ := h; cases e1; rw [e2]
  refine j_bipush (v := zI 43) d_Pa_fork_7 (by decide) ?_
  obtain ⟨h1, h2⟩ := h
  refine zj_icmp_ne 16 d_Pa_fork_9 (by decide) (z_R _ _ _) ⟨by decide, by decide⟩ (fun k2 => ?_) (fun k2 => ?_)
  · have h := h1 k2
    refine j_iconst (v := zI 0) d_Pa_fork_16 (by decide) ?_
    exact j_sel [0] rfl h
  · have h := h2 k2
    refine j_iconst (v := zI 1) d_Pa_fork_12 (by decide) ?_
    refine j_goto 17 d_Pa_fork_13 (by decide) ?_
    exact j_sel [0] rfl h
set_option maxHeartbeats 2000000 in
theorem b_Pa_fork_17 {ω : q_W} {σ : q_H} {Q : q_R → q_H → Prop} {d mc ms : Nat} {y0 : Int} {p : Nat} (hp : p = 16 ∨ p = 29) (r80 : q_r σ 8 0 = 2) (r81 : q_r σ 8 1 = p) (hE : q_E σ) (h : (J ω m_Sc_advance d 0 0 0 0 0 [(0, .ref 2)] [] σ (q_kv (fun τ => J ω m_Pa_fork (d + 1) mc ms 0 0 25 [(0, .ref 8), (1, .int (zI y0))] [] τ Q)))) : J ω m_Pa_fork (d + 1) mc ms 0 0 17 [(0, .ref 8)] [.int (zI y0)] σ Q := by
  refine j_istore_n (L' := [(1, .int (zI y0)), (0, .ref 8)]) d_Pa_fork_17 (by decide) rfl ?_
  refine j_aload_n d_Pa_fork_18 1 rfl ?_
  refine j_getR 2 f_Pa_33 d_Pa_fork_19 (tg_8 hE) (q_okE hE (by decide)) (r80) (by decide) ?_
  refine j_callV m_Sc_advance [] [] d 0 0 cV_Pa_78 d_Pa_fork_22 rfl rfl (tg_2 hE) (q_okE hE (by decide)) (Nat.le_of_ble_eq_true rfl) (Nat.le_refl _) (Nat.le_of_ble_eq_true rfl) (Nat.zero_le _) (Nat.zero_le _) h (fun v τ h => ?_) (fun x τ h => ?_)
  · obtain ⟨e1, h⟩ := h; cases e1; exact j_sel [1, 0] rfl h
  · obtain ⟨e1, h⟩ := h; cases e1
set_option maxHeartbeats 2000000 in
theorem b_Pa_fork_25 {ω : q_W} {σ : q_H} {Q : q_R → q_H → Prop} {d mc ms : Nat} {x1 : Int} {p : Nat} (hp : p = 16 ∨ p = 29) (r80 : q_r σ 8 0 = 2) (r81 : q_r σ 8 1 = p) (hE : q_E σ) (h : (0 ≤ (z σ 2 8) ∧ (z σ 2 8) < 4097) ∧ inR x1 ∧ q_imp (x1 = 0) ((J ω m_Pa_fork (d + 1) mc ms 0 0 45 [(0, .ref 8), (1, .int (zI x1)), (2, .int (zI (zL (q_l σ 6 (z σ 2 8).toNat))))] [] σ Q)) ∧ q_imp (x1 ≠ 0) ((J ω m_Pa_loopNumber d 0 0 0 0 0 [(0, .ref 8), (1, .int (zI (zL (q_l σ 6 (z σ 2 8).toNat))))] [] σ (q_ki (fun v τ => J ω m_Pa_fork (d + 1) mc ms 0 0 42 [(0, .ref 8), (1, .int (zI x1)), (2, .int (zI (zL (q_l σ 6 (z σ 2 8).toNat))))] [.int (zI v)] τ Q))))) : J ω m_Pa_fork (d + 1) mc ms 0 0 25 [(0, .ref 8), (1, .int (zI x1))] [] σ Q := by
  refine j_aload_n d_Pa_fork_25 0 rfl ?_
  refine j_getR 2 f_Pa_33 d_Pa_fork_26 (tg_8 hE) (q_okE hE (by decide)) (r80) (by decide) ?_
  obtain ⟨c3, h⟩ := h
  refine j_callV m_Sc_number [] [] 0 0 0 cV_Pa_99 d_Pa_fork_29 rfl rfl (tg_2 hE) (q_okE hE (by decide)) (Nat.le_of_ble_eq_true rfl) (Nat.succ_le_succ (Nat.zero_le _)) (Nat.le_of_ble_eq_true rfl) (Nat.zero_le _) (Nat.zero_le _) (c_Sc_number hE c3 (q_z _ _ _) (rfl)) (fun v τ h => ?_) (fun x τ h => absurd h.1 (by simp))
  obtain ⟨e1, e2⟩ := h; cases e1; rw [e2]
  refine j_istore_n (L' := [(2, .int (zI (zL (q_l σ 6 (z σ 2 8).toNat)))), (0, .ref 8), (1, .int (zI x1))]) d_Pa_fork_32 (by decide) rfl ?_
  refine j_iload_n d_Pa_fork_33 2 rfl ?_
  obtain ⟨r4, h⟩ := h
  obtain ⟨h1, h2⟩ := h
  refine zj_if_eq 45 d_Pa_fork_34 (by decide) r4 (fun k5 => ?_) (fun k5 => ?_)
  · have h := h1 k5
    exact j_sel [1, 2, 0] rfl h
  · have h := h2 k5
    refine j_aload_n d_Pa_fork_37 1 rfl ?_
    refine j_iload_n d_Pa_fork_38 0 rfl ?_
    refine j_callV m_Pa_loopNumber [.int (zI (zL (q_l σ 6 (z σ 2 8).toNat)))] [] d 0 0 cV_Pa_150 d_Pa_fork_39 rfl rfl (tg_8 hE) (q_okE hE (by decide)) (Nat.le_of_ble_eq_true rfl) (Nat.le_refl _) (Nat.le_of_ble_eq_true rfl) (Nat.zero_le _) (Nat.zero_le _) h (fun v τ h => ?_) (fun x τ h => ?_)
    · obtain ⟨v, hv, e1, h⟩ := h; cases e1; exact j_sel [1, 2, 0] rfl h
    · obtain ⟨v, hv, e1, h⟩ := h; cases e1
set_option maxHeartbeats 2000000 in
theorem b_Pa_fork_45 {ω : q_W} {σ : q_H} {Q : q_R → q_H → Prop} {d mc ms : Nat} {x1 : Int} {x2 : Int} {p : Nat} (hp : p = 16 ∨ p = 29) (r80 : q_r σ 8 0 = 2) (r81 : q_r σ 8 1 = p) (hE : q_E σ) (h : (J ω m_Pa_accept d 0 0 0 0 0 [(0, .ref 8), (1, .int (zI 35))] [] σ (q_ki (fun v τ => J ω m_Pa_fork (d + 1) mc ms 0 0 51 [(0, .ref 8), (1, .int (zI x1)), (2, .int (zI x2))] [.int (zI v)] τ Q)))) : J ω m_Pa_fork (d + 1) mc ms 0 0 45 [(0, .ref 8), (1, .int (zI x1)), (2, .int (zI x2))] [] σ Q := by
  refine j_aload_n d_Pa_fork_45 0 rfl ?_
  refine j_bipush (v := zI 35) d_Pa_fork_46 (by decide) ?_
  refine j_callV m_Pa_accept [.int (zI 35)] [] d 0 0 cV_Pa_95 d_Pa_fork_48 rfl rfl (tg_8 hE) (q_okE hE (by decide)) (Nat.le_of_ble_eq_true rfl) (Nat.le_refl _) (Nat.le_of_ble_eq_true rfl) (Nat.zero_le _) (Nat.zero_le _) h (fun v τ h => ?_) (fun x τ h => ?_)
  · obtain ⟨v, hv, e1, h⟩ := h; cases e1; exact j_sel [0, 1, 2] rfl h
  · obtain ⟨v, hv, e1, h⟩ := h; cases e1
set_option maxHeartbeats 2000000 in
theorem b_Pa_fork_42 {ω : q_W} {σ : q_H} {Q : q_R → q_H → Prop} {d mc ms : Nat} {x1 : Int} {x2 : Int} {y0 : Int} {p : Nat} (hp : p = 16 ∨ p = 29) (r80 : q_r σ 8 0 = 2) (r81 : q_r σ 8 1 = p) (hE : q_E σ) (h : inR y0 ∧ q_imp (y0 = 0) ((Q (.inl (some (.int (zI 0)))) σ)) ∧ q_imp (y0 ≠ 0) ((J ω m_Pa_fork (d + 1) mc ms 0 0 45 [(0, .ref 8), (1, .int (zI x1)), (2, .int (zI x2))] [] σ Q))) : J ω m_Pa_fork (d + 1) mc ms 0 0 42 [(0, .ref 8), (1, .int (zI x1)), (2, .int (zI x2))] [.int (zI y0)] σ Q := by
  obtain ⟨r6, h⟩ := h
  obtain ⟨h1, h2⟩ := h
  refine zj_if_eq 54 d_Pa_fork_42 (by decide) r6 (fun k7 => ?_) (fun k7 => ?_)
  · have h := h1 k7
    refine j_iconst (v := zI 0) d_Pa_fork_54 (by decide) ?_
    exact zj_zret d_Pa_fork_55 rfl (by decide) (Nat.zero_le _) (Nat.zero_le _) h
  · have h := h2 k7
    exact j_sel [0, 1, 2] rfl h
set_option maxHeartbeats 2000000 in
theorem b_Pa_fork_51 {ω : q_W} {σ : q_H} {Q : q_R → q_H → Prop} {d mc ms : Nat} {x1 : Int} {x2 : Int} {y0 : Int} {p : Nat} (hp : p = 16 ∨ p = 29) (r80 : q_r σ 8 0 = 2) (r81 : q_r σ 8 1 = p) (hE : q_E σ) (h : inR y0 ∧ q_imp (y0 ≠ 0) ((J ω m_Pa_expression d 0 0 0 0 0 [(0, .ref 8), (1, .int (zI ((z σ 8 7) + 1)))] [] σ (q_ki (fun v τ => J ω m_Pa_fork (d + 1) mc ms 0 0 74 [(0, .ref 8), (1, .int (zI x1)), (2, .int (zI x2)), (3, .int (zI (z σ p 17)))] [.int (zI v)] τ Q)))) ∧ q_imp (y0 = 0) ((Q (.inl (some (.int (zI 0)))) σ))) : J ω m_Pa_fork (d + 1) mc ms 0 0 51 [(0, .ref 8), (1, .int (zI x1)), (2, .int (zI x2))] [.int (zI y0)] σ Q := by
  obtain ⟨r8, h⟩ := h
  obtain ⟨h1, h2⟩ := h
  refine zj_if_ne 56 d_Pa_fork_51 (by decide) r8 (fun k9 => ?_) (fun k9 => ?_)
  · have h := h1 k9
    refine j_aload_n d_Pa_fork_56 0 rfl ?_
    refine j_getR p f_Pa_37 d_Pa_fork_57 (tg_8 hE) (q_okE hE (by decide)) (r81) (by omega) ?_
    refine zj_getI (z σ p 17) f_Pa_136 d_Pa_fork_60 (tY_p_0 hE hp) (q_okE hE (by omega)) (q_z _ _ _) ?_
    refine j_istore_n (L' := [(3, .int (zI (z σ p 17))), (0, .ref 8), (1, .int (zI x1)), (2, .int (zI x2))]) d_Pa_fork_63 (by decide) rfl ?_
    refine j_aload_n d_Pa_fork_64 1 rfl ?_
    refine j_aload_n d_Pa_fork_65 1 rfl ?_
    refine zj_getI (z σ 8 7) f_Pa_46 d_Pa_fork_66 (tg_8 hE) (q_okE hE (by decide)) (q_z _ _ _) ?_
    refine j_iconst (v := zI 1) d_Pa_fork_69 (by decide) ?_
    refine zj_iadd ((z σ 8 7) + 1) (by omega) d_Pa_fork_70 ?_
    refine j_callV m_Pa_expression [.int (zI ((z σ 8 7) + 1))] [] d 0 0 cV_Pa_139 d_Pa_fork_71 rfl rfl (tg_8 hE) (q_okE hE (by decide)) (Nat.le_of_ble_eq_true rfl) (Nat.le_refl _) (Nat.le_of_ble_eq_true rfl) (Nat.zero_le _) (Nat.zero_le _) h (fun v τ h => ?_) (fun x τ h => ?_)
    · obtain ⟨v, hv, e1, h⟩ := h; cases e1; exact j_sel [1, 2, 3, 0] rfl h
    · obtain ⟨v, hv, e1, h⟩ := h; cases e1
  · have h := h2 k9
    refine j_iconst (v := zI 0) d_Pa_fork_54 (by decide) ?_
    exact zj_zret d_Pa_fork_55 rfl (by decide) (Nat.zero_le _) (Nat.zero_le _) h
set_option maxHeartbeats 2000000 in
theorem b_Pa_fork_74 {ω : q_W} {σ : q_H} {Q : q_R → q_H → Prop} {d mc ms : Nat} {x1 : Int} {x2 : Int} {x3 : Int} {y0 : Int} {p : Nat} (hp : p = 16 ∨ p = 29) (r80 : q_r σ 8 0 = 2) (r81 : q_r σ 8 1 = p) (hE : q_E σ) (h : inR y0 ∧ q_imp (y0 = (-1)) ((Q (.inl (some (.int (zI 0)))) σ)) ∧ q_imp (y0 ≠ (-1)) ((J ω m_Pa_accept d 0 0 0 0 0 [(0, .ref 8), (1, .int (zI 36))] [] σ (q_ki (fun v τ => J ω m_Pa_fork (d + 1) mc ms 0 0 88 [(0, .ref 8), (1, .int (zI x1)), (2, .int (zI x2)), (3, .int (zI x3)), (4, .int (zI y0))] [.int (zI v)] τ Q))))) : J ω m_Pa_fork (d + 1) mc ms 0 0 74 [(0, .ref 8), (1, .int (zI x1)), (2, .int (zI x2)), (3, .int (zI x3))] [.int (zI y0)] σ Q := by
  refine j_istore (L' := [(4, .int (zI y0)), (0, .ref 8), (1, .int (zI x1)), (2, .int (zI x2)), (3, .int (zI x3))]) d_Pa_fork_74 (by decide) rfl ?_
  refine j_iload d_Pa_fork_76 0 rfl ?_
  refine j_iconst (v := zI (-1)) d_Pa_fork_78 (by decide) ?_
  obtain ⟨r10, h⟩ := h
  obtain ⟨h1, h2⟩ := h
  refine zj_icmp_eq 91 d_Pa_fork_79 (by decide) r10 ⟨by decide, by decide⟩ (fun k11 => ?_) (fun k11 => ?_)
  · have h := h1 k11
    refine j_iconst (v := zI 0) d_Pa_fork_91 (by decide) ?_
    exact zj_zret d_Pa_fork_92 rfl (by decide) (Nat.zero_le _) (Nat.zero_le _) h
  · have h := h2 k11
    refine j_aload_n d_Pa_fork_82 1 rfl ?_
    refine j_bipush (v := zI 36) d_Pa_fork_83 (by decide) ?_
    refine j_callV m_Pa_accept [.int (zI 36)] [] d 0 0 cV_Pa_95 d_Pa_fork_85 rfl rfl (tg_8 hE) (q_okE hE (by decide)) (Nat.le_of_ble_eq_true rfl) (Nat.le_refl _) (Nat.le_of_ble_eq_true rfl) (Nat.zero_le _) (Nat.zero_le _) h (fun v τ h => ?_) (fun x τ h => ?_)
    · obtain ⟨v, hv, e1, h⟩ := h; cases e1; exact j_sel [1, 2, 3, 4, 0] rfl h
    · obtain ⟨v, hv, e1, h⟩ := h; cases e1
set_option maxHeartbeats 2000000 in
theorem b_Pa_fork_88 {ω : q_W} {σ : q_H} {Q : q_R → q_H → Prop} {d mc ms : Nat} {x1 : Int} {x2 : Int} {x3 : Int} {x4 : Int} {y0 : Int} {p : Nat} (hp : p = 16 ∨ p = 29) (r80 : q_r σ 8 0 = 2) (r81 : q_r σ 8 1 = p) (hE : q_E σ) (h : inR y0 ∧ q_imp (y0 ≠ 0) (inR x1 ∧ q_imp (x1 = 0) ((J ω m_Pr_addStep d 0 0 0 0 0 [(0, .ref p), (1, .int (zI 4)), (2, .int (zI 0)), (3, .int (zI x3))] [] σ (q_ki (fun v τ => J ω m_Pa_fork (d + 1) mc ms 0 0 144 [(4, .int (zI x4))] [.int (zI v), .int (zI 2), .ref 8] τ Q)))) ∧ q_imp (x1 ≠ 0) ((J ω m_Pr_addStep d 0 0 0 0 0 [(0, .ref p), (1, .int (zI 8)), (2, .int (zI (z σ 8 8))), (3, .int (zI x3))] [] σ (q_ki (fun v τ => J ω m_Pa_fork (d + 1) mc ms 0 0 113 [(0, .ref 8), (2, .int (zI x2)), (4, .int (zI x4))] [.int (zI v), .int (zI 4), .ref 8] τ Q))))) ∧ q_imp (y0 = 0) ((Q (.inl (some (.int (zI 0)))) σ))) : J ω m_Pa_fork (d + 1) mc ms 0 0 88 [(0, .ref 8), (1, .int (zI x1)), (2, .int (zI x2)), (3, .int (zI x3)), (4, .int (zI x4))] [.int (zI y0)] σ Q := by
  obtain ⟨r12, h⟩ := h
  obtain ⟨h1, h2⟩ := h
  refine zj_if_ne 93 d_Pa_fork_88 (by decide) r12 (fun k13 => ?_) (fun k13 => ?_)
  · have h := h1 k13
    refine j_iload_n d_Pa_fork_93 1 rfl ?_
    obtain ⟨r14, h⟩ := h
    obtain ⟨h1, h2⟩ := h
    refine zj_if_eq 132 d_Pa_fork_94 (by decide) r14 (fun k15 => ?_) (fun k15 => ?_)
    · have h := h1 k15
      refine j_aload_n d_Pa_fork_132 0 rfl ?_
      refine j_iconst (v := zI 2) d_Pa_fork_133 (by decide) ?_
      refine j_aload_n d_Pa_fork_134 0 rfl ?_
      refine j_getR p f_Pa_37 d_Pa_fork_135 (tg_8 hE) (q_okE hE (by decide)) (r81) (by omega) ?_
      refine j_iconst (v := zI 4) d_Pa_fork_138 (by decide) ?_
      refine j_iconst (v := zI 0) d_Pa_fork_139 (by decide) ?_
      refine j_iload_n d_Pa_fork_140 3 rfl ?_
      refine j_callV m_Pr_addStep [.int (zI 4), .int (zI 0), .int (zI x3)] [.int (zI 2), .ref 8] d 0 0 cV_Pa_143 d_Pa_fork_141 rfl rfl (tY_p_0 hE hp) (q_okE hE (by omega)) (Nat.le_of_ble_eq_true rfl) (Nat.le_refl _) (Nat.le_of_ble_eq_true rfl) (Nat.zero_le _) (Nat.zero_le _) h (fun v τ h => ?_) (fun x τ h => ?_)
      · obtain ⟨v, hv, e1, h⟩ := h; cases e1; exact j_sel [4] rfl h
      · obtain ⟨v, hv, e1, h⟩ := h; cases e1
    · have h := h2 k15
      refine j_aload_n d_Pa_fork_97 0 rfl ?_
      refine j_iconst (v := zI 4) d_Pa_fork_98 (by decide) ?_
      refine j_aload_n d_Pa_fork_99 0 rfl ?_
      refine j_getR p f_Pa_37 d_Pa_fork_100 (tg_8 hE) (q_okE hE (by decide)) (r81) (by omega) ?_
      refine j_bipush (v := zI 8) d_Pa_fork_103 (by decide) ?_
      refine j_aload_n d_Pa_fork_105 0 rfl ?_
      refine zj_getI (z σ 8 8) f_Pa_50 d_Pa_fork_106 (tg_8 hE) (q_okE hE (by decide)) (q_z _ _ _) ?_
      refine j_iload_n d_Pa_fork_109 3 rfl ?_
      refine j_callV m_Pr_addStep [.int (zI 8), .int (zI (z σ 8 8)), .int (zI x3)] [.int (zI 4), .ref 8] d 0 0 cV_Pa_143 d_Pa_fork_110 rfl rfl (tY_p_0 hE hp) (q_okE hE (by omega)) (Nat.le_of_ble_eq_true rfl) (Nat.le_refl _) (Nat.le_of_ble_eq_true rfl) (Nat.zero_le _) (Nat.zero_le _) h (fun v τ h => ?_) (fun x τ h => ?_)
      · obtain ⟨v, hv, e1, h⟩ := h; cases e1; exact j_sel [0, 2, 4] rfl h
      · obtain ⟨v, hv, e1, h⟩ := h; cases e1
  · have h := h2 k13
    refine j_iconst (v := zI 0) d_Pa_fork_91 (by decide) ?_
    exact zj_zret d_Pa_fork_92 rfl (by decide) (Nat.zero_le _) (Nat.zero_le _) h
set_option maxHeartbeats 2000000 in
theorem b_Pa_fork_144 {ω : q_W} {σ : q_H} {Q : q_R → q_H → Prop} {d mc ms : Nat} {x4 : Int} {y0 : Int} {y1 : Int} {p : Nat} (hp : p = 16 ∨ p = 29) (r80 : q_r σ 8 0 = 2) (r81 : q_r σ 8 1 = p) (hE : q_E σ) (h : (J ω m_Pa_enter d 0 0 0 0 0 [(0, .ref 8), (1, .int (zI y1)), (2, .int (zI y0)), (3, .int (zI 0)), (4, .int (zI x4))] [] σ (q_kv (fun τ => J ω m_Pa_fork (d + 1) mc ms 0 0 150 [] [] τ Q)))) : J ω m_Pa_fork (d + 1) mc ms 0 0 144 [(4, .int (zI x4))] [.int (zI y0), .int (zI y1), .ref 8] σ Q := by
  refine j_iconst (v := zI 0) d_Pa_fork_144 (by decide) ?_
  refine j_iload d_Pa_fork_145 0 rfl ?_
  refine j_callV m_Pa_enter [.int (zI y1), .int (zI y0), .int (zI 0), .int (zI x4)] [] d 0 0 cV_Pa_119 d_Pa_fork_147 rfl rfl (tg_8 hE) (q_okE hE (by decide)) (Nat.le_of_ble_eq_true rfl) (Nat.le_refl _) (Nat.le_of_ble_eq_true rfl) (Nat.zero_le _) (Nat.zero_le _) h (fun v τ h => ?_) (fun x τ h => ?_)
  · obtain ⟨e1, h⟩ := h; cases e1; exact j_sel [] rfl h
  · obtain ⟨e1, h⟩ := h; cases e1
set_option maxHeartbeats 2000000 in
theorem b_Pa_fork_113 {ω : q_W} {σ : q_H} {Q : q_R → q_H → Prop} {d mc ms : Nat} {x2 : Int} {x4 : Int} {y0 : Int} {y1 : Int} {p : Nat} (hp : p = 16 ∨ p = 29) (r80 : q_r σ 8 0 = 2) (r81 : q_r σ 8 1 = p) (hE : q_E σ) (h : (J ω m_Pa_enter d 0 0 0 0 0 [(0, .ref 8), (1, .int (zI y1)), (2, .int (zI y0)), (3, .int (zI x2)), (4, .int (zI x4))] [] σ (q_kv (fun τ => J ω m_Pa_fork (d + 1) mc ms 0 0 119 [(0, .ref 8)] [] τ Q)))) : J ω m_Pa_fork (d + 1) mc ms 0 0 113 [(0, .ref 8), (2, .int (zI x2)), (4, .int (zI x4))] [.int (zI y0), .int (zI y1), .ref 8] σ Q := by
  refine j_iload_n d_Pa_fork_113 1 rfl ?_
  refine j_iload d_Pa_fork_114 2 rfl ?_
  refine j_callV m_Pa_enter [.int (zI y1), .int (zI y0), .int (zI x2), .int (zI x4)] [] d 0 0 cV_Pa_119 d_Pa_fork_116 rfl rfl (tg_8 hE) (q_okE hE (by decide)) (Nat.le_of_ble_eq_true rfl) (Nat.le_refl _) (Nat.le_of_ble_eq_true rfl) (Nat.zero_le _) (Nat.zero_le _) h (fun v τ h => ?_) (fun x τ h => ?_)
  · obtain ⟨e1, h⟩ := h; cases e1; exact j_sel [0] rfl h
  · obtain ⟨e1, h⟩ := h; cases e1
set_option maxHeartbeats 2000000 in
theorem b_Pa_fork_150 {ω : q_W} {σ : q_H} {Q : q_R → q_H → Prop} {d mc ms : Nat}  {p : Nat} (hp : p = 16 ∨ p = 29) (r80 : q_r σ 8 0 = 2) (r81 : q_r σ 8 1 = p) (hE : q_E σ) (h : (Q (.inl (some (.int (zI 1)))) σ)) : J ω m_Pa_fork (d + 1) mc ms 0 0 150 [] [] σ Q := by
  refine j_iconst (v := zI 1) d_Pa_fork_150 (by decide) ?_
  exact zj_zret d_Pa_fork_151 rfl (by decide) (Nat.zero_le _) (Nat.zero_le _) h
set_option maxHeartbeats 2000000 in
theorem b_Pa_fork_119 {ω : q_W} {σ : q_H} {Q : q_R → q_H → Prop} {d mc ms : Nat}  {p : Nat} (hp : p = 16 ∨ p = 29) (r80 : q_r σ 8 0 = 2) (r81 : q_r σ 8 1 = p) (hE : q_E σ) (h : (Q (.inl (some (.int (zI 1)))) (zs σ 8 8 ((z σ 8 8) + 1)))) : J ω m_Pa_fork (d + 1) mc ms 0 0 119 [(0, .ref 8)] [] σ Q := by
  refine j_aload_n d_Pa_fork_119 0 rfl ?_
  refine j_dup d_Pa_fork_120 rfl ?_
  refine zj_getI (z σ 8 8) f_Pa_50 d_Pa_fork_121 (tg_8 hE) (q_okE hE (by decide)) (q_z _ _ _) ?_
  refine j_iconst (v := zI 1) d_Pa_fork_124 (by decide) ?_
  refine zj_iadd ((z σ 8 8) + 1) (by omega) d_Pa_fork_125 ?_
  refine zj_putI (g_Pa_50 _) d_Pa_fork_126 (tg_8 hE) (q_okE hE (by decide)) ?_
  refine j_goto 150 d_Pa_fork_129 (by decide) ?_
  refine j_iconst (v := zI 1) d_Pa_fork_150 (by decide) ?_
  exact zj_zret d_Pa_fork_151 rfl (by decide) (Nat.zero_le _) (Nat.zero_le _) h
set_option maxHeartbeats 2000000 in
theorem b_Pa_loopNumber_0 {ω : q_W} {σ : q_H} {Q : q_R → q_H → Prop} {d mc ms : Nat} {x1 : Int} {p : Nat} (hp : p = 16 ∨ p = 29) (r80 : q_r σ 8 0 = 2) (r81 : q_r σ 8 1 = p) (hE : q_E σ) (h : (0 ≤ (z σ 2 8) ∧ (z σ 2 8) < 4097) ∧ (J ω m_Pa_accept d 0 0 0 0 0 [(0, .ref 8), (1, .int (zI 23))] [] σ (q_ki (fun v τ => J ω m_Pa_loopNumber (d + 1) mc ms 0 0 14 [(0, .ref 8), (1, .int (zI x1)), (2, .int (zI (z σ 5 (z σ 2 8).toNat)))] [.int (zI v)] τ Q)))) : J ω m_Pa_loopNumber (d + 1) mc ms 0 0 0 [(0, .ref 8), (1, .int (zI x1))] [] σ Q := by
  refine j_aload_n d_Pa_loopNumber_0 0 rfl ?_
  refine j_getR 2 f_Pa_33 d_Pa_loopNumber_1 (tg_8 hE) (q_okE hE (by decide)) (r80) (by decide) ?_
  obtain ⟨c1, h⟩ := h
  refine j_callV m_Sc_start [] [] 0 0 0 cV_Pa_56 d_Pa_loopNumber_4 rfl rfl (tg_2 hE) (q_okE hE (by decide)) (Nat.le_of_ble_eq_true rfl) (Nat.succ_le_succ (Nat.zero_le _)) (Nat.le_of_ble_eq_true rfl) (Nat.zero_le _) (Nat.zero_le _) (c_Sc_start hE c1 (q_z _ _ _) (q_z _ _ _)) (fun v τ h => ?_) (fun x τ h => absurd h.1 (by simp))
  obtain ⟨e1, e2⟩ := h; cases e1; rw [e2]
  refine j_istore_n (L' := [(2, .int (zI (z σ 5 (z σ 2 8).toNat))), (0, .ref 8), (1, .int (zI x1))]) d_Pa_loopNumber_7 (by decide) rfl ?_
  refine j_aload_n d_Pa_loopNumber_8 1 rfl ?_
  refine j_bipush (v := zI 23) d_Pa_loopNumber_9 (by decide) ?_
  refine j_callV m_Pa_accept [.int (zI 23)] [] d 0 0 cV_Pa_95 d_Pa_loopNumber_11 rfl rfl (tg_8 hE) (q_okE hE (by decide)) (Nat.le_of_ble_eq_true rfl) (Nat.le_refl _) (Nat.le_of_ble_eq_true rfl) (Nat.zero_le _) (Nat.zero_le _) h (fun v τ h => ?_) (fun x τ h => ?_)
  · obtain ⟨v, hv, e1, h⟩ := h; cases e1; exact j_sel [1, 2, 0] rfl h
  · obtain ⟨v, hv, e1, h⟩ := h; cases e1
set_option maxHeartbeats 2000000 in
theorem b_Pa_loopNumber_14 {ω : q_W} {σ : q_H} {Q : q_R → q_H → Prop} {d mc ms : Nat} {x1 : Int} {x2 : Int} {y0 : Int} {p : Nat} (hp : p = 16 ∨ p = 29) (r80 : q_r σ 8 0 = 2) (r81 : q_r σ 8 1 = p) (hE : q_E σ) (h : inR y0 ∧ q_imp (y0 ≠ 0) (inR x1 ∧ q_imp (x1 ≤ 8) ((J ω m_Pa_loopNumber (d + 1) mc ms 0 0 34 [(0, .ref 8), (1, .int (zI x1))] [] σ Q)) ∧ q_imp (x1 > 8) ((J ω m_Pr_note d 0 0 0 0 0 [(0, .ref p), (1, .int (zI 5)), (2, .int (zI x2))] [] σ (q_kv (fun τ => J ω m_Pa_loopNumber (d + 1) mc ms 0 0 34 [(0, .ref 8), (1, .int (zI x1))] [] τ Q))))) ∧ q_imp (y0 = 0) ((Q (.inl (some (.int (zI 0)))) σ))) : J ω m_Pa_loopNumber (d + 1) mc ms 0 0 14 [(0, .ref 8), (1, .int (zI x1)), (2, .int (zI x2))] [.int (zI y0)] σ Q := by
  obtain ⟨r2, h⟩ := h
  obtain ⟨h1, h2⟩ := h
  refine zj_if_ne 19 d_Pa_loopNumber_14 (by decide) r2 (fun k3 => ?_) (fun k3 => ?_)
  · have h := h1 k3
    refine j_iload_n d_Pa_loopNumber_19 1 rfl ?_
    refine j_bipush (v := zI 8) d_Pa_loopNumber_20 (by decide) ?_
    obtain ⟨r4, h⟩ := h
    obtain ⟨h1, h2⟩ := h
    refine zj_icmp_le 34 d_Pa_loopNumber_22 (by decide) r4 ⟨by decide, by decide⟩ (fun k5 => ?_) (fun k5 => ?_)
    · have h := h1 k5
      exact j_sel [0, 1] rfl h
    · have h := h2 k5
      refine j_aload_n d_Pa_loopNumber_25 0 rfl ?_
      refine j_getR p f_Pa_37 d_Pa_loopNumber_26 (tg_8 hE) (q_okE hE (by decide)) (r81) (by omega) ?_
      refine j_iconst (v := zI 5) d_Pa_loopNumber_29 (by decide) ?_
      refine j_iload_n d_Pa_loopNumber_30 2 rfl ?_
      refine j_callV m_Pr_note [.int (zI 5), .int (zI x2)] [] d 0 0 cV_Pa_71 d_Pa_loopNumber_31 rfl rfl (tY_p_0 hE hp) (q_okE hE (by omega)) (Nat.le_of_ble_eq_true rfl) (Nat.le_refl _) (Nat.le_of_ble_eq_true rfl) (Nat.zero_le _) (Nat.zero_le _) h (fun v τ h => ?_) (fun x τ h => ?_)
      · obtain ⟨e1, h⟩ := h; cases e1; exact j_sel [0, 1] rfl h
      · obtain ⟨e1, h⟩ := h; cases e1
  · have h := h2 k3
    refine j_iconst (v := zI 0) d_Pa_loopNumber_17 (by decide) ?_
    exact zj_zret d_Pa_loopNumber_18 rfl (by decide) (Nat.zero_le _) (Nat.zero_le _) h
set_option maxHeartbeats 2000000 in
theorem b_Pa_loopNumber_34 {ω : q_W} {σ : q_H} {Q : q_R → q_H → Prop} {d mc ms : Nat} {x1 : Int} {p : Nat} (hp : p = 16 ∨ p = 29) (r80 : q_r σ 8 0 = 2) (r81 : q_r σ 8 1 = p) (hE : q_E σ) (h : (J ω m_Pr_addStep d 0 0 0 0 0 [(0, .ref p), (1, .int (zI 7)), (2, .int (zI x1)), (3, .int (zI (z σ p 17)))] [] σ (q_ki (fun v τ => J ω m_Pa_loopNumber (d + 1) mc ms 0 0 51 [(0, .ref 8)] [.int (zI v)] τ Q)))) : J ω m_Pa_loopNumber (d + 1) mc ms 0 0 34 [(0, .ref 8), (1, .int (zI x1))] [] σ Q := by
  refine j_aload_n d_Pa_loopNumber_34 0 rfl ?_
  refine j_getR p f_Pa_37 d_Pa_loopNumber_35 (tg_8 hE) (q_okE hE (by decide)) (r81) (by omega) ?_
  refine j_bipush (v := zI 7) d_Pa_loopNumber_38 (by decide) ?_
  refine j_iload_n d_Pa_loopNumber_40 1 rfl ?_
  refine j_aload_n d_Pa_loopNumber_41 0 rfl ?_
  refine j_getR p f_Pa_37 d_Pa_loopNumber_42 (tg_8 hE) (q_okE hE (by decide)) (r81) (by omega) ?_
  refine zj_getI (z σ p 17) f_Pa_136 d_Pa_loopNumber_45 (tY_p_0 hE hp) (q_okE hE (by omega)) (q_z _ _ _) ?_
  refine j_callV m_Pr_addStep [.int (zI 7), .int (zI x1), .int (zI (z σ p 17))] [] d 0 0 cV_Pa_143 d_Pa_loopNumber_48 rfl rfl (tY_p_0 hE hp) (q_okE hE (by omega)) (Nat.le_of_ble_eq_true rfl) (Nat.le_refl _) (Nat.le_of_ble_eq_true rfl) (Nat.zero_le _) (Nat.zero_le _) h (fun v τ h => ?_) (fun x τ h => ?_)
  · obtain ⟨v, hv, e1, h⟩ := h; cases e1; exact j_sel [0] rfl h
  · obtain ⟨v, hv, e1, h⟩ := h; cases e1
set_option maxHeartbeats 2000000 in
theorem b_Pa_loopNumber_51 {ω : q_W} {σ : q_H} {Q : q_R → q_H → Prop} {d mc ms : Nat} {y0 : Int} {p : Nat} (hp : p = 16 ∨ p = 29) (r80 : q_r σ 8 0 = 2) (r81 : q_r σ 8 1 = p) (hE : q_E σ) (h : (0 ≤ y0 ∧ y0 < 2048) ∧ (Q (.inl (some (.int (zI 1)))) (zs σ (p + 9) y0.toNat (z σ 8 8)))) : J ω m_Pa_loopNumber (d + 1) mc ms 0 0 51 [(0, .ref 8)] [.int (zI y0)] σ Q := by
  refine j_istore_n (L' := [(3, .int (zI y0)), (0, .ref 8)]) d_Pa_loopNumber_51 (by decide) rfl ?_
  refine j_aload_n d_Pa_loopNumber_52 1 rfl ?_
  refine j_getR p f_Pa_37 d_Pa_loopNumber_53 (tg_8 hE) (q_okE hE (by decide)) (r81) (by omega) ?_
  refine j_getR (p + 9) f_Pa_153 d_Pa_loopNumber_56 (tY_p_0 hE hp) (q_okE hE (by omega)) (rY_p_16 hE hp) (by omega) ?_
  refine j_iload_n d_Pa_loopNumber_59 0 rfl ?_
  refine j_aload_n d_Pa_loopNumber_60 1 rfl ?_
  refine zj_getI (z σ 8 8) f_Pa_50 d_Pa_loopNumber_61 (tg_8 hE) (q_okE hE (by decide)) (q_z _ _ _) ?_
  obtain ⟨c6, h⟩ := h
  refine zj_iast d_Pa_loopNumber_64 (tY_p_9 hE hp) (q_okE hE (by omega)) c6 (by decide) ?_
  refine j_iconst (v := zI 1) d_Pa_loopNumber_65 (by decide) ?_
  exact zj_zret d_Pa_loopNumber_66 rfl (by decide) (Nat.zero_le _) (Nat.zero_le _) h
set_option maxHeartbeats 2000000 in
theorem b_Pa_enter_0 {ω : q_W} {σ : q_H} {Q : q_R → q_H → Prop} {d mc ms : Nat} {x1 : Int} {x2 : Int} {x3 : Int} {x4 : Int} {p : Nat} (hp : p = 16 ∨ p = 29) (r80 : q_r σ 8 0 = 2) (r81 : q_r σ 8 1 = p) (hE : q_E σ) (h : (0 ≤ (z σ 8 7) ∧ (z σ 8 7) < 32) ∧ (Q (.inl none) (zs (zs (zs (zs (zs (zs σ 9 (z σ 8 7).toNat x1) 10 (z σ 8 7).toNat x2) 11 (z σ 8 7).toNat x3) 12 (z σ 8 7).toNat x4) 13 (z σ 8 7).toNat 0) 8 7 ((z σ 8 7) + 1)))) : J ω m_Pa_enter d mc ms 0 0 0 [(0, .ref 8), (1, .int (zI x1)), (2, .int (zI x2)), (3, .int (zI x3)), (4, .int (zI x4))] [] σ Q := by
  refine j_aload_n d_Pa_enter_0 0 rfl ?_
  refine j_getR 9 f_Pa_9 d_Pa_enter_1 (tg_8 hE) (q_okE hE (by decide)) (rf_8_2 hE) (by decide) ?_
  refine j_aload_n d_Pa_enter_4 0 rfl ?_
  refine zj_getI (z σ 8 7) f_Pa_46 d_Pa_enter_5 (tg_8 hE) (q_okE hE (by decide)) (q_z _ _ _) ?_
  refine j_iload_n d_Pa_enter_8 1 rfl ?_
  obtain ⟨c1, h⟩ := h
  refine zj_iast d_Pa_enter_9 (tg_9 hE) (q_okE hE (by decide)) c1 (by decide) ?_
  refine j_aload_n d_Pa_enter_10 0 rfl ?_
  refine j_getR 10 f_Pa_15 d_Pa_enter_11 (tg_8 (zs_E hE)) (q_okE (zs_E hE) (by decide)) (rf_8_3 (zs_E hE)) (by decide) ?_
  refine j_aload_n d_Pa_enter_14 0 rfl ?_
  refine zj_getI (z σ 8 7) f_Pa_46 d_Pa_enter_15 (tg_8 (zs_E hE)) (q_okE (zs_E hE) (by decide)) (Eq.trans (qs_o (by decide)) (q_z _ _ _)) ?_
  refine j_iload_n d_Pa_enter_18 2 rfl ?_
  refine zj_iast d_Pa_enter_19 (tg_10 (zs_E hE)) (q_okE (zs_E hE) (by decide)) c1 (by decide) ?_
  refine j_aload_n d_Pa_enter_20 0 rfl ?_
  refine j_getR 11 f_Pa_18 d_Pa_enter_21 (tg_8 (zs_E (zs_E hE))) (q_okE (zs_E (zs_E hE)) (by decide)) (rf_8_4 (zs_E (zs_E hE))) (by decide) ?_
  refine j_aload_n d_Pa_enter_24 0 rfl ?_
  refine zj_getI (z σ 8 7) f_Pa_46 d_Pa_enter_25 (tg_8 (zs_E (zs_E hE))) (q_okE (zs_E (zs_E hE)) (by decide)) (Eq.trans (qs_o (by decide)) (Eq.trans (qs_o (by decide)) (q_z _ _ _))) ?_
  refine j_iload_n d_Pa_enter_28 3 rfl ?_
  refine zj_iast d_Pa_enter_29 (tg_11 (zs_E (zs_E hE))) (q_okE (zs_E (zs_E hE)) (by decide)) c1 (by decide) ?_
  refine j_aload_n d_Pa_enter_30 0 rfl ?_
  refine j_getR 12 f_Pa_21 d_Pa_enter_31 (tg_8 (zs_E (zs_E (zs_E hE)))) (q_okE (zs_E (zs_E (zs_E hE))) (by decide)) (rf_8_5 (zs_E (zs_E (zs_E hE)))) (by decide) ?_
  refine j_aload_n d_Pa_enter_34 0 rfl ?_
  refine zj_getI (z σ 8 7) f_Pa_46 d_Pa_enter_35 (tg_8 (zs_E (zs_E (zs_E hE)))) (q_okE (zs_E (zs_E (zs_E hE))) (by decide)) (Eq.trans (qs_o (by decide)) (Eq.trans (qs_o (by decide)) (Eq.trans (qs_o (by decide)) (q_z _ _ _)))) ?_
  refine j_iload d_Pa_enter_38 4 rfl ?_
  refine zj_iast d_Pa_enter_40 (tg_12 (zs_E (zs_E (zs_E hE)))) (q_okE (zs_E (zs_E (zs_E hE))) (by decide)) c1 (by decide) ?_
  refine j_aload_n d_Pa_enter_41 0 rfl ?_
  refine j_getR 13 f_Pa_24 d_Pa_enter_42 (tg_8 (zs_E (zs_E (zs_E (zs_E hE))))) (q_okE (zs_E (zs_E (zs_E (zs_E hE)))) (by decide)) (rf_8_6 (zs_E (zs_E (zs_E (zs_E hE))))) (by decide) ?_
  refine j_aload_n d_Pa_enter_45 0 rfl ?_
  refine zj_getI (z σ 8 7) f_Pa_46 d_Pa_enter_46 (tg_8 (zs_E (zs_E (zs_E (zs_E hE))))) (q_okE (zs_E (zs_E (zs_E (zs_E hE)))) (by decide)) (Eq.trans (qs_o (by decide)) (Eq.trans (qs_o (by decide)) (Eq.trans (qs_o (by decide)) (Eq.trans (qs_o (by decide)) (q_z _ _ _))))) ?_
  refine j_iconst (v := zI 0) d_Pa_enter_49 (by decide) ?_
  refine zj_iast d_Pa_enter_50 (tg_13 (zs_E (zs_E (zs_E (zs_E hE))))) (q_okE (zs_E (zs_E (zs_E (zs_E hE)))) (by decide)) c1 (by decide) ?_
  refine j_aload_n d_Pa_enter_51 0 rfl ?_
  refine j_dup d_Pa_enter_52 rfl ?_
  refine zj_getI (z σ 8 7) f_Pa_46 d_Pa_enter_53 (tg_8 (zs_E (zs_E (zs_E (zs_E (zs_E hE)))))) (q_okE (zs_E (zs_E (zs_E (zs_E (zs_E hE))))) (by decide)) (Eq.trans (qs_o (by decide)) (Eq.trans (qs_o (by decide)) (Eq.trans (qs_o (by decide)) (Eq.trans (qs_o (by decide)) (Eq.trans (qs_o (by decide)) (q_z _ _ _)))))) ?_
  refine j_iconst (v := zI 1) d_Pa_enter_56 (by decide) ?_
  refine zj_iadd ((z σ 8 7) + 1) (by omega) d_Pa_enter_57 ?_
  refine zj_putI (g_Pa_46 _) d_Pa_enter_58 (tg_8 (zs_E (zs_E (zs_E (zs_E (zs_E hE)))))) (q_okE (zs_E (zs_E (zs_E (zs_E (zs_E hE))))) (by decide)) ?_
  exact j_vret d_Pa_enter_61 rfl (Nat.zero_le _) (Nat.zero_le _) h
set_option maxHeartbeats 2000000 in
theorem b_Pa_closeBlock_0 {ω : q_W} {σ : q_H} {Q : q_R → q_H → Prop} {d mc ms : Nat}  {p : Nat} (hp : p = 16 ∨ p = 29) (r80 : q_r σ 8 0 = 2) (r81 : q_r σ 8 1 = p) (hE : q_E σ) (h : q_imp ((z σ 8 7) = 0) ((Q (.inl (some (.int (zI 0)))) σ)) ∧ q_imp ((z σ 8 7) ≠ 0) ((0 ≤ ((z σ 8 7) - 1) ∧ ((z σ 8 7) - 1) < 32) ∧ q_imp ((z σ 9 ((z σ 8 7) - 1).toNat) = 1) ((J ω m_Sc_advance d 0 0 0 0 0 [(0, .ref 2)] [] σ (q_kv (fun τ => J ω m_Pa_closeBlock (d + 1) mc ms 0 0 31 [(0, .ref 8)] [] τ Q)))) ∧ q_imp ((z σ 9 ((z σ 8 7) - 1).toNat) ≠ 1) ((Q (.inl (some (.int (zI 0)))) σ)))) : J ω m_Pa_closeBlock (d + 1) mc ms 0 0 0 [(0, .ref 8)] [] σ Q := by
  refine j_aload_n d_Pa_closeBlock_0 0 rfl ?_
  refine zj_getI (z σ 8 7) f_Pa_46 d_Pa_closeBlock_1 (tg_8 hE) (q_okE hE (by decide)) (q_z _ _ _) ?_
  obtain ⟨h1, h2⟩ := h
  refine zj_if_eq 22 d_Pa_closeBlock_4 (by decide) (z_R _ _ _) (fun k1 => ?_) (fun k1 => ?_)
  · have h := h1 k1
    refine j_iconst (v := zI 0) d_Pa_closeBlock_22 (by decide) ?_
    exact zj_zret d_Pa_closeBlock_23 rfl (by decide) (Nat.zero_le _) (Nat.zero_le _) h
  · have h := h2 k1
    refine j_aload_n d_Pa_closeBlock_7 0 rfl ?_
    refine j_getR 9 f_Pa_9 d_Pa_closeBlock_8 (tg_8 hE) (q_okE hE (by decide)) (rf_8_2 hE) (by decide) ?_
    refine j_aload_n d_Pa_closeBlock_11 0 rfl ?_
    refine zj_getI (z σ 8 7) f_Pa_46 d_Pa_closeBlock_12 (tg_8 hE) (q_okE hE (by decide)) (q_z _ _ _) ?_
    refine j_iconst (v := zI 1) d_Pa_closeBlock_15 (by decide) ?_
    refine zj_isub ((z σ 8 7) - 1) (by omega) d_Pa_closeBlock_16 ?_
    obtain ⟨c2, h⟩ := h
    refine zj_iald (z σ 9 ((z σ 8 7) - 1).toNat) d_Pa_closeBlock_17 (tg_9 hE) (q_okE hE (by decide)) c2 (by decide) (q_z _ _ _) ?_
    refine j_iconst (v := zI 1) d_Pa_closeBlock_18 (by decide) ?_
    obtain ⟨h1, h2⟩ := h
    refine zj_icmp_eq 24 d_Pa_closeBlock_19 (by decide) (z_R _ _ _) ⟨by decide, by decide⟩ (fun k3 => ?_) (fun k3 => ?_)
    · have h := h1 k3
      refine j_aload_n d_Pa_closeBlock_24 0 rfl ?_
      refine j_getR 2 f_Pa_33 d_Pa_closeBlock_25 (tg_8 hE) (q_okE hE (by decide)) (r80) (by decide) ?_
      refine j_callV m_Sc_advance [] [] d 0 0 cV_Pa_78 d_Pa_closeBlock_28 rfl rfl (tg_2 hE) (q_okE hE (by decide)) (Nat.le_of_ble_eq_true rfl) (Nat.le_refl _) (Nat.le_of_ble_eq_true rfl) (Nat.zero_le _) (Nat.zero_le _) h (fun v τ h => ?_) (fun x τ h => ?_)
      · obtain ⟨e1, h⟩ := h; cases e1; exact j_sel [0] rfl h
      · obtain ⟨e1, h⟩ := h; cases e1
    · have h := h2 k3
      refine j_iconst (v := zI 0) d_Pa_closeBlock_22 (by decide) ?_
      exact zj_zret d_Pa_closeBlock_23 rfl (by decide) (Nat.zero_le _) (Nat.zero_le _) h
set_option maxHeartbeats 2000000 in
theorem b_Pa_closeBlock_31 {ω : q_W} {σ : q_H} {Q : q_R → q_H → Prop} {d mc ms : Nat}  {p : Nat} (hp : p = 16 ∨ p = 29) (r80 : q_r σ 8 0 = 2) (r81 : q_r σ 8 1 = p) (hE : q_E σ) (h : (0 ≤ ((z σ 8 7) - 1) ∧ ((z σ 8 7) - 1) < 32) ∧ (J ω m_Pa_finish d 0 0 0 0 0 [(0, .ref 8), (1, .int (zI (z σ 13 ((z σ 8 7) - 1).toNat)))] [] (zs σ 8 7 ((z σ 8 7) - 1)) (q_kv (fun τ => J ω m_Pa_closeBlock (d + 1) mc ms 0 0 54 [] [] τ Q)))) : J ω m_Pa_closeBlock (d + 1) mc ms 0 0 31 [(0, .ref 8)] [] σ Q := by
  refine j_aload_n d_Pa_closeBlock_31 0 rfl ?_
  refine j_dup d_Pa_closeBlock_32 rfl ?_
  refine zj_getI (z σ 8 7) f_Pa_46 d_Pa_closeBlock_33 (tg_8 hE) (q_okE hE (by decide)) (q_z _ _ _) ?_
  refine j_iconst (v := zI 1) d_Pa_closeBlock_36 (by decide) ?_
  refine zj_isub ((z σ 8 7) - 1) (by omega) d_Pa_closeBlock_37 ?_
  refine zj_putI (g_Pa_46 _) d_Pa_closeBlock_38 (tg_8 hE) (q_okE hE (by decide)) ?_
  refine j_aload_n d_Pa_closeBlock_41 0 rfl ?_
  refine j_aload_n d_Pa_closeBlock_42 0 rfl ?_
  refine j_getR 13 f_Pa_24 d_Pa_closeBlock_43 (tg_8 (zs_E hE)) (q_okE (zs_E hE) (by decide)) (rf_8_6 (zs_E hE)) (by decide) ?_
  refine j_aload_n d_Pa_closeBlock_46 0 rfl ?_
  refine zj_getI ((z σ 8 7) - 1) f_Pa_46 d_Pa_closeBlock_47 (tg_8 (zs_E hE)) (q_okE (zs_E hE) (by decide)) (qs_s) ?_
  obtain ⟨c4, h⟩ := h
  refine zj_iald (z σ 13 ((z σ 8 7) - 1).toNat) d_Pa_closeBlock_50 (tg_13 (zs_E hE)) (q_okE (zs_E hE) (by decide)) c4 (by decide) (Eq.trans (qs_o (by decide)) (q_z _ _ _)) ?_
  refine j_callV m_Pa_finish [.int (zI (z σ 13 ((z σ 8 7) - 1).toNat))] [] d 0 0 cV_Pa_126 d_Pa_closeBlock_51 rfl rfl (tg_8 (zs_E hE)) (q_okE (zs_E hE) (by decide)) (Nat.le_of_ble_eq_true rfl) (Nat.le_refl _) (Nat.le_of_ble_eq_true rfl) (Nat.zero_le _) (Nat.zero_le _) h (fun v τ h => ?_) (fun x τ h => ?_)
  · obtain ⟨e1, h⟩ := h; cases e1; exact j_sel [] rfl h
  · obtain ⟨e1, h⟩ := h; cases e1
set_option maxHeartbeats 2000000 in
theorem b_Pa_closeBlock_54 {ω : q_W} {σ : q_H} {Q : q_R → q_H → Prop} {d mc ms : Nat}  {p : Nat} (hp : p = 16 ∨ p = 29) (r80 : q_r σ 8 0 = 2) (r81 : q_r σ 8 1 = p) (hE : q_E σ) (h : (Q (.inl (some (.int (zI 1)))) σ)) : J ω m_Pa_closeBlock (d + 1) mc ms 0 0 54 [] [] σ Q := by
  refine j_iconst (v := zI 1) d_Pa_closeBlock_54 (by decide) ?_
  exact zj_zret d_Pa_closeBlock_55 rfl (by decide) (Nat.zero_le _) (Nat.zero_le _) h
set_option maxHeartbeats 2000000 in
theorem b_Pa_conclude_0 {ω : q_W} {σ : q_H} {Q : q_R → q_H → Prop} {d mc ms : Nat} {x1 : Int} {p : Nat} (hp : p = 16 ∨ p = 29) (r80 : q_r σ 8 0 = 2) (r81 : q_r σ 8 1 = p) (hE : q_E σ) (h : inR x1 ∧ q_imp (x1 ≠ 0) (q_imp ((z σ p 8) ≤ 1500) ((Q (.inl none) σ)) ∧ q_imp ((z σ p 8) > 1500) ((J ω m_Pr_note d 0 0 0 0 0 [(0, .ref p), (1, .int (zI 7)), (2, .int (zI (z σ 2 2)))] [] σ (q_kv (fun τ => J ω m_Pa_conclude (d + 1) mc ms 0 0 58 [] [] τ Q))))) ∧ q_imp (x1 = 0) ((0 ≤ (z σ 2 8) ∧ (z σ 2 8) < 4097) ∧ (Q (.inl none) (zs (zs σ p 9 1) p 10 (z σ 5 (z σ 2 8).toNat))))) : J ω m_Pa_conclude (d + 1) mc ms 0 0 0 [(0, .ref 8), (1, .int (zI x1))] [] σ Q := by
  refine j_iload_n d_Pa_conclude_0 1 rfl ?_
  obtain ⟨r1, h⟩ := h
  obtain ⟨h1, h2⟩ := h
  refine zj_if_ne 29 d_Pa_conclude_1 (by decide) r1 (fun k2 => ?_) (fun k2 => ?_)
  · have h := h1 k2
    refine j_aload_n d_Pa_conclude_29 0 rfl ?_
    refine j_getR p f_Pa_37 d_Pa_conclude_30 (tg_8 hE) (q_okE hE (by decide)) (r81) (by omega) ?_
    refine zj_getI (z σ p 8) f_Pa_65 d_Pa_conclude_33 (tY_p_0 hE hp) (q_okE hE (by omega)) (q_z _ _ _) ?_
    refine j_sipush (v := zI 1500) d_Pa_conclude_36 (by decide) ?_
    obtain ⟨h1, h2⟩ := h
    refine zj_icmp_le 58 d_Pa_conclude_39 (by decide) (z_R _ _ _) ⟨by decide, by decide⟩ (fun k3 => ?_) (fun k3 => ?_)
    · have h := h1 k3
      exact j_vret d_Pa_conclude_58 rfl (Nat.zero_le _) (Nat.zero_le _) h
    · have h := h2 k3
      refine j_aload_n d_Pa_conclude_42 0 rfl ?_
      refine j_getR p f_Pa_37 d_Pa_conclude_43 (tg_8 hE) (q_okE hE (by decide)) (r81) (by omega) ?_
      refine j_bipush (v := zI 7) d_Pa_conclude_46 (by decide) ?_
      refine j_aload_n d_Pa_conclude_48 0 rfl ?_
      refine j_getR 2 f_Pa_33 d_Pa_conclude_49 (tg_8 hE) (q_okE hE (by decide)) (r80) (by decide) ?_
      refine zj_getI (z σ 2 2) f_Pa_68 d_Pa_conclude_52 (tg_2 hE) (q_okE hE (by decide)) (q_z _ _ _) ?_
      refine j_callV m_Pr_note [.int (zI 7), .int (zI (z σ 2 2))] [] d 0 0 cV_Pa_71 d_Pa_conclude_55 rfl rfl (tY_p_0 hE hp) (q_okE hE (by omega)) (Nat.le_of_ble_eq_true rfl) (Nat.le_refl _) (Nat.le_of_ble_eq_true rfl) (Nat.zero_le _) (Nat.zero_le _) h (fun v τ h => ?_) (fun x τ h => ?_)
      · obtain ⟨e1, h⟩ := h; cases e1; exact j_sel [] rfl h
      · obtain ⟨e1, h⟩ := h; cases e1
  · have h := h2 k2
    refine j_aload_n d_Pa_conclude_4 0 rfl ?_
    refine j_getR p f_Pa_37 d_Pa_conclude_5 (tg_8 hE) (q_okE hE (by decide)) (r81) (by omega) ?_
    refine j_iconst (v := zI 1) d_Pa_conclude_8 (by decide) ?_
    refine zj_putI (g_Pa_53 _) d_Pa_conclude_9 (tY_p_0 hE hp) (q_okE hE (by omega)) ?_
    refine j_aload_n d_Pa_conclude_12 0 rfl ?_
    refine j_getR p f_Pa_37 d_Pa_conclude_13 (tg_8 (zs_E hE)) (q_okE (zs_E hE) (by decide)) (Eq.trans (zs_r) (r81)) (by omega) ?_
    refine j_aload_n d_Pa_conclude_16 0 rfl ?_
    refine j_getR 2 f_Pa_33 d_Pa_conclude_17 (tg_8 (zs_E hE)) (q_okE (zs_E hE) (by decide)) (Eq.trans (zs_r) (r80)) (by decide) ?_
    obtain ⟨c4, h⟩ := h
    refine j_callV m_Sc_start [] [.ref p] 0 0 0 cV_Pa_56 d_Pa_conclude_20 rfl rfl (tg_2 (zs_E hE)) (q_okE (zs_E hE) (by decide)) (Nat.le_of_ble_eq_true rfl) (Nat.succ_le_succ (Nat.zero_le _)) (Nat.le_of_ble_eq_true rfl) (Nat.zero_le _) (Nat.zero_le _) (c_Sc_start (zs_E hE) c4 (Eq.trans (qs_o (by omega)) (q_z _ _ _)) (Eq.trans (qs_o (by omega)) (q_z _ _ _))) (fun v τ h => ?_) (fun x τ h => absurd h.1 (by simp))
    obtain ⟨e1, e2⟩ := h; cases e1; rw [e2]
    refine zj_putI (g_Pa_62 _) d_Pa_conclude_23 (tY_p_0 (zs_E hE) hp) (q_okE (zs_E hE) (by omega)) ?_
    refine j_goto 58 d_Pa_conclude_26 (by decide) ?_
    exact j_vret d_Pa_conclude_58 rfl (Nat.zero_le _) (Nat.zero_le _) h
set_option maxHeartbeats 2000000 in
theorem b_Pa_conclude_58 {ω : q_W} {σ : q_H} {Q : q_R → q_H → Prop} {d mc ms : Nat}  {p : Nat} (hp : p = 16 ∨ p = 29) (r80 : q_r σ 8 0 = 2) (r81 : q_r σ 8 1 = p) (hE : q_E σ) (h : (Q (.inl none) σ)) : J ω m_Pa_conclude (d + 1) mc ms 0 0 58 [] [] σ Q := by
  exact j_vret d_Pa_conclude_58 rfl (Nat.zero_le _) (Nat.zero_le _) h
