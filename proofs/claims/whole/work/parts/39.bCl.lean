/-! stretches of bytecode as conditions: Cl Ch -/
theorem d_Cl_clear_0 : decode m_Cl_clear.2.1 0 = .ok (.aload_n 0, 1) := by decide +kernel
theorem d_Cl_clear_1 : decode m_Cl_clear.2.1 1 = .ok (.iconst 1, 1) := by decide +kernel
theorem d_Cl_clear_2 : decode m_Cl_clear.2.1 2 = .ok (.putfield 22, 3) := by decide +kernel
theorem d_Cl_clear_5 : decode m_Cl_clear.2.1 5 = .ok (.aload_n 0, 1) := by decide +kernel
theorem d_Cl_clear_6 : decode m_Cl_clear.2.1 6 = .ok (.getfield 16, 3) := by decide +kernel
theorem d_Cl_clear_9 : decode m_Cl_clear.2.1 9 = .ok (.iconst 2, 1) := by decide +kernel
theorem d_Cl_clear_10 : decode m_Cl_clear.2.1 10 = .ok (.iload_n 1, 1) := by decide +kernel
theorem d_Cl_clear_11 : decode m_Cl_clear.2.1 11 = .ok (.imul, 1) := by decide +kernel
theorem d_Cl_clear_12 : decode m_Cl_clear.2.1 12 = .ok (.invokestatic 26, 3) := by decide +kernel
theorem d_Cl_clear_15 : decode m_Cl_clear.2.1 15 = .ok (.return_, 1) := by decide +kernel
theorem d_Cl_write_0 : decode m_Cl_write.2.1 0 = .ok (.aload_n 0, 1) := by decide +kernel
theorem d_Cl_write_1 : decode m_Cl_write.2.1 1 = .ok (.getfield 19, 3) := by decide +kernel
theorem d_Cl_write_4 : decode m_Cl_write.2.1 4 = .ok (.aload_n 1, 1) := by decide +kernel
theorem d_Cl_write_5 : decode m_Cl_write.2.1 5 = .ok (.getfield 33, 3) := by decide +kernel
theorem d_Cl_write_8 : decode m_Cl_write.2.1 8 = .ok (.invokestatic 26, 3) := by decide +kernel
theorem d_Cl_write_11 : decode m_Cl_write.2.1 11 = .ok (.iconst 0, 1) := by decide +kernel
theorem d_Cl_write_12 : decode m_Cl_write.2.1 12 = .ok (.istore 4, 2) := by decide +kernel
theorem d_Cl_write_14 : decode m_Cl_write.2.1 14 = .ok (.iload 4, 2) := by decide +kernel
theorem d_Cl_write_16 : decode m_Cl_write.2.1 16 = .ok (.iload_n 3, 1) := by decide +kernel
theorem d_Cl_write_17 : decode m_Cl_write.2.1 17 = .ok (.if_icmp .ge 21, 3) := by decide +kernel
theorem d_Cl_write_20 : decode m_Cl_write.2.1 20 = .ok (.aload_n 0, 1) := by decide +kernel
theorem d_Cl_write_21 : decode m_Cl_write.2.1 21 = .ok (.getfield 19, 3) := by decide +kernel
theorem d_Cl_write_24 : decode m_Cl_write.2.1 24 = .ok (.aload_n 2, 1) := by decide +kernel
theorem d_Cl_write_25 : decode m_Cl_write.2.1 25 = .ok (.iload 4, 2) := by decide +kernel
theorem d_Cl_write_27 : decode m_Cl_write.2.1 27 = .ok (.iaload, 1) := by decide +kernel
theorem d_Cl_write_28 : decode m_Cl_write.2.1 28 = .ok (.iconst 1, 1) := by decide +kernel
theorem d_Cl_write_29 : decode m_Cl_write.2.1 29 = .ok (.ishr, 1) := by decide +kernel
theorem d_Cl_write_30 : decode m_Cl_write.2.1 30 = .ok (.iconst 1, 1) := by decide +kernel
theorem d_Cl_write_31 : decode m_Cl_write.2.1 31 = .ok (.iastore, 1) := by decide +kernel
theorem d_Cl_write_32 : decode m_Cl_write.2.1 32 = .ok (.iinc 4 1, 3) := by decide +kernel
theorem d_Cl_write_35 : decode m_Cl_write.2.1 35 = .ok (.goto (-21), 3) := by decide +kernel
theorem d_Cl_write_38 : decode m_Cl_write.2.1 38 = .ok (.aload_n 1, 1) := by decide +kernel
theorem d_Cl_write_39 : decode m_Cl_write.2.1 39 = .ok (.getfield 33, 3) := by decide +kernel
theorem d_Cl_write_42 : decode m_Cl_write.2.1 42 = .ok (.iconst 1, 1) := by decide +kernel
theorem d_Cl_write_43 : decode m_Cl_write.2.1 43 = .ok (.isub, 1) := by decide +kernel
theorem d_Cl_write_44 : decode m_Cl_write.2.1 44 = .ok (.istore 4, 2) := by decide +kernel
theorem d_Cl_write_46 : decode m_Cl_write.2.1 46 = .ok (.iload 4, 2) := by decide +kernel
theorem d_Cl_write_48 : decode m_Cl_write.2.1 48 = .ok (.ifCond .le 75, 3) := by decide +kernel
theorem d_Cl_write_51 : decode m_Cl_write.2.1 51 = .ok (.aload_n 0, 1) := by decide +kernel
theorem d_Cl_write_52 : decode m_Cl_write.2.1 52 = .ok (.getfield 19, 3) := by decide +kernel
theorem d_Cl_write_55 : decode m_Cl_write.2.1 55 = .ok (.iload 4, 2) := by decide +kernel
theorem d_Cl_write_57 : decode m_Cl_write.2.1 57 = .ok (.iaload, 1) := by decide +kernel
theorem d_Cl_write_58 : decode m_Cl_write.2.1 58 = .ok (.iconst 1, 1) := by decide +kernel
theorem d_Cl_write_59 : decode m_Cl_write.2.1 59 = .ok (.if_icmp .ne 58, 3) := by decide +kernel
theorem d_Cl_write_62 : decode m_Cl_write.2.1 62 = .ok (.aload_n 1, 1) := by decide +kernel
theorem d_Cl_write_63 : decode m_Cl_write.2.1 63 = .ok (.getfield 36, 3) := by decide +kernel
theorem d_Cl_write_66 : decode m_Cl_write.2.1 66 = .ok (.iload 4, 2) := by decide +kernel
theorem d_Cl_write_68 : decode m_Cl_write.2.1 68 = .ok (.iaload, 1) := by decide +kernel
theorem d_Cl_write_69 : decode m_Cl_write.2.1 69 = .ok (.ifCond .eq 48, 3) := by decide +kernel
theorem d_Cl_write_72 : decode m_Cl_write.2.1 72 = .ok (.aload_n 0, 1) := by decide +kernel
theorem d_Cl_write_73 : decode m_Cl_write.2.1 73 = .ok (.getfield 19, 3) := by decide +kernel
theorem d_Cl_write_76 : decode m_Cl_write.2.1 76 = .ok (.aload_n 1, 1) := by decide +kernel
theorem d_Cl_write_77 : decode m_Cl_write.2.1 77 = .ok (.getfield 39, 3) := by decide +kernel
theorem d_Cl_write_80 : decode m_Cl_write.2.1 80 = .ok (.iload 4, 2) := by decide +kernel
theorem d_Cl_write_82 : decode m_Cl_write.2.1 82 = .ok (.iaload, 1) := by decide +kernel
theorem d_Cl_write_83 : decode m_Cl_write.2.1 83 = .ok (.iconst 1, 1) := by decide +kernel
theorem d_Cl_write_84 : decode m_Cl_write.2.1 84 = .ok (.ishr, 1) := by decide +kernel
theorem d_Cl_write_85 : decode m_Cl_write.2.1 85 = .ok (.iconst 1, 1) := by decide +kernel
theorem d_Cl_write_86 : decode m_Cl_write.2.1 86 = .ok (.iastore, 1) := by decide +kernel
theorem d_Cl_write_87 : decode m_Cl_write.2.1 87 = .ok (.aload_n 0, 1) := by decide +kernel
theorem d_Cl_write_88 : decode m_Cl_write.2.1 88 = .ok (.getfield 19, 3) := by decide +kernel
theorem d_Cl_write_91 : decode m_Cl_write.2.1 91 = .ok (.aload_n 1, 1) := by decide +kernel
theorem d_Cl_write_92 : decode m_Cl_write.2.1 92 = .ok (.getfield 42, 3) := by decide +kernel
theorem d_Cl_write_95 : decode m_Cl_write.2.1 95 = .ok (.iload 4, 2) := by decide +kernel
theorem d_Cl_write_97 : decode m_Cl_write.2.1 97 = .ok (.iaload, 1) := by decide +kernel
theorem d_Cl_write_98 : decode m_Cl_write.2.1 98 = .ok (.iconst 1, 1) := by decide +kernel
theorem d_Cl_write_99 : decode m_Cl_write.2.1 99 = .ok (.ishr, 1) := by decide +kernel
theorem d_Cl_write_100 : decode m_Cl_write.2.1 100 = .ok (.iconst 1, 1) := by decide +kernel
theorem d_Cl_write_101 : decode m_Cl_write.2.1 101 = .ok (.iastore, 1) := by decide +kernel
theorem d_Cl_write_102 : decode m_Cl_write.2.1 102 = .ok (.aload_n 0, 1) := by decide +kernel
theorem d_Cl_write_103 : decode m_Cl_write.2.1 103 = .ok (.getfield 19, 3) := by decide +kernel
theorem d_Cl_write_106 : decode m_Cl_write.2.1 106 = .ok (.aload_n 1, 1) := by decide +kernel
theorem d_Cl_write_107 : decode m_Cl_write.2.1 107 = .ok (.getfield 45, 3) := by decide +kernel
theorem d_Cl_write_110 : decode m_Cl_write.2.1 110 = .ok (.iload 4, 2) := by decide +kernel
theorem d_Cl_write_112 : decode m_Cl_write.2.1 112 = .ok (.iaload, 1) := by decide +kernel
theorem d_Cl_write_113 : decode m_Cl_write.2.1 113 = .ok (.iconst 1, 1) := by decide +kernel
theorem d_Cl_write_114 : decode m_Cl_write.2.1 114 = .ok (.ishr, 1) := by decide +kernel
theorem d_Cl_write_115 : decode m_Cl_write.2.1 115 = .ok (.iconst 1, 1) := by decide +kernel
theorem d_Cl_write_116 : decode m_Cl_write.2.1 116 = .ok (.iastore, 1) := by decide +kernel
theorem d_Cl_write_117 : decode m_Cl_write.2.1 117 = .ok (.iinc 4 (-1), 3) := by decide +kernel
theorem d_Cl_write_120 : decode m_Cl_write.2.1 120 = .ok (.goto (-74), 3) := by decide +kernel
theorem d_Cl_write_123 : decode m_Cl_write.2.1 123 = .ok (.iconst 1, 1) := by decide +kernel
theorem d_Cl_write_124 : decode m_Cl_write.2.1 124 = .ok (.istore 4, 2) := by decide +kernel
theorem d_Cl_write_126 : decode m_Cl_write.2.1 126 = .ok (.iload 4, 2) := by decide +kernel
theorem d_Cl_write_128 : decode m_Cl_write.2.1 128 = .ok (.aload_n 1, 1) := by decide +kernel
theorem d_Cl_write_129 : decode m_Cl_write.2.1 129 = .ok (.getfield 33, 3) := by decide +kernel
theorem d_Cl_write_132 : decode m_Cl_write.2.1 132 = .ok (.if_icmp .ge 56, 3) := by decide +kernel
theorem d_Cl_write_135 : decode m_Cl_write.2.1 135 = .ok (.aload_n 0, 1) := by decide +kernel
theorem d_Cl_write_136 : decode m_Cl_write.2.1 136 = .ok (.getfield 19, 3) := by decide +kernel
theorem d_Cl_write_139 : decode m_Cl_write.2.1 139 = .ok (.iload 4, 2) := by decide +kernel
theorem d_Cl_write_141 : decode m_Cl_write.2.1 141 = .ok (.iaload, 1) := by decide +kernel
theorem d_Cl_write_142 : decode m_Cl_write.2.1 142 = .ok (.iconst 1, 1) := by decide +kernel
theorem d_Cl_write_143 : decode m_Cl_write.2.1 143 = .ok (.if_icmp .ne 39, 3) := by decide +kernel
theorem d_Cl_write_146 : decode m_Cl_write.2.1 146 = .ok (.aload_n 0, 1) := by decide +kernel
theorem d_Cl_write_147 : decode m_Cl_write.2.1 147 = .ok (.aload_n 1, 1) := by decide +kernel
theorem d_Cl_write_148 : decode m_Cl_write.2.1 148 = .ok (.getfield 36, 3) := by decide +kernel
theorem d_Cl_write_151 : decode m_Cl_write.2.1 151 = .ok (.iload 4, 2) := by decide +kernel
theorem d_Cl_write_153 : decode m_Cl_write.2.1 153 = .ok (.iaload, 1) := by decide +kernel
theorem d_Cl_write_154 : decode m_Cl_write.2.1 154 = .ok (.iconst 2, 1) := by decide +kernel
theorem d_Cl_write_155 : decode m_Cl_write.2.1 155 = .ok (.iload 4, 2) := by decide +kernel
theorem d_Cl_write_157 : decode m_Cl_write.2.1 157 = .ok (.imul, 1) := by decide +kernel
theorem d_Cl_write_158 : decode m_Cl_write.2.1 158 = .ok (.aload_n 1, 1) := by decide +kernel
theorem d_Cl_write_159 : decode m_Cl_write.2.1 159 = .ok (.getfield 39, 3) := by decide +kernel
theorem d_Cl_write_162 : decode m_Cl_write.2.1 162 = .ok (.iload 4, 2) := by decide +kernel
theorem d_Cl_write_164 : decode m_Cl_write.2.1 164 = .ok (.iaload, 1) := by decide +kernel
theorem d_Cl_write_165 : decode m_Cl_write.2.1 165 = .ok (.aload_n 1, 1) := by decide +kernel
theorem d_Cl_write_166 : decode m_Cl_write.2.1 166 = .ok (.getfield 42, 3) := by decide +kernel
theorem d_Cl_write_169 : decode m_Cl_write.2.1 169 = .ok (.iload 4, 2) := by decide +kernel
theorem d_Cl_write_171 : decode m_Cl_write.2.1 171 = .ok (.iaload, 1) := by decide +kernel
theorem d_Cl_write_172 : decode m_Cl_write.2.1 172 = .ok (.aload_n 1, 1) := by decide +kernel
theorem d_Cl_write_173 : decode m_Cl_write.2.1 173 = .ok (.getfield 45, 3) := by decide +kernel
theorem d_Cl_write_176 : decode m_Cl_write.2.1 176 = .ok (.iload 4, 2) := by decide +kernel
theorem d_Cl_write_178 : decode m_Cl_write.2.1 178 = .ok (.iaload, 1) := by decide +kernel
theorem d_Cl_write_179 : decode m_Cl_write.2.1 179 = .ok (.invokevirtual 48, 3) := by decide +kernel
theorem d_Cl_write_182 : decode m_Cl_write.2.1 182 = .ok (.iinc 4 1, 3) := by decide +kernel
theorem d_Cl_write_185 : decode m_Cl_write.2.1 185 = .ok (.goto (-59), 3) := by decide +kernel
theorem d_Cl_write_188 : decode m_Cl_write.2.1 188 = .ok (.return_, 1) := by decide +kernel
theorem d_Cl_writeGate_0 : decode m_Cl_writeGate.2.1 0 = .ok (.iload_n 1, 1) := by decide +kernel
theorem d_Cl_writeGate_1 : decode m_Cl_writeGate.2.1 1 = .ok (.tableswitch 155 1 3 #[27, 61, 108], 27) := by decide +kernel
theorem d_Cl_writeGate_28 : decode m_Cl_writeGate.2.1 28 = .ok (.aload_n 0, 1) := by decide +kernel
theorem d_Cl_writeGate_29 : decode m_Cl_writeGate.2.1 29 = .ok (.iload_n 2, 1) := by decide +kernel
theorem d_Cl_writeGate_30 : decode m_Cl_writeGate.2.1 30 = .ok (.iconst 1, 1) := by decide +kernel
theorem d_Cl_writeGate_31 : decode m_Cl_writeGate.2.1 31 = .ok (.ixor, 1) := by decide +kernel
theorem d_Cl_writeGate_32 : decode m_Cl_writeGate.2.1 32 = .ok (.iload_n 3, 1) := by decide +kernel
theorem d_Cl_writeGate_33 : decode m_Cl_writeGate.2.1 33 = .ok (.iconst 0, 1) := by decide +kernel
theorem d_Cl_writeGate_34 : decode m_Cl_writeGate.2.1 34 = .ok (.invokevirtual 52, 3) := by decide +kernel
theorem d_Cl_writeGate_37 : decode m_Cl_writeGate.2.1 37 = .ok (.aload_n 0, 1) := by decide +kernel
theorem d_Cl_writeGate_38 : decode m_Cl_writeGate.2.1 38 = .ok (.iload_n 2, 1) := by decide +kernel
theorem d_Cl_writeGate_39 : decode m_Cl_writeGate.2.1 39 = .ok (.iconst 1, 1) := by decide +kernel
theorem d_Cl_writeGate_40 : decode m_Cl_writeGate.2.1 40 = .ok (.ixor, 1) := by decide +kernel
theorem d_Cl_writeGate_41 : decode m_Cl_writeGate.2.1 41 = .ok (.iload 4, 2) := by decide +kernel
theorem d_Cl_writeGate_43 : decode m_Cl_writeGate.2.1 43 = .ok (.iconst 0, 1) := by decide +kernel
theorem d_Cl_writeGate_44 : decode m_Cl_writeGate.2.1 44 = .ok (.invokevirtual 52, 3) := by decide +kernel
theorem d_Cl_writeGate_47 : decode m_Cl_writeGate.2.1 47 = .ok (.aload_n 0, 1) := by decide +kernel
theorem d_Cl_writeGate_48 : decode m_Cl_writeGate.2.1 48 = .ok (.iload_n 2, 1) := by decide +kernel
theorem d_Cl_writeGate_49 : decode m_Cl_writeGate.2.1 49 = .ok (.iload_n 3, 1) := by decide +kernel
theorem d_Cl_writeGate_50 : decode m_Cl_writeGate.2.1 50 = .ok (.iconst 1, 1) := by decide +kernel
theorem d_Cl_writeGate_51 : decode m_Cl_writeGate.2.1 51 = .ok (.ixor, 1) := by decide +kernel
theorem d_Cl_writeGate_52 : decode m_Cl_writeGate.2.1 52 = .ok (.iload 4, 2) := by decide +kernel
theorem d_Cl_writeGate_54 : decode m_Cl_writeGate.2.1 54 = .ok (.iconst 1, 1) := by decide +kernel
theorem d_Cl_writeGate_55 : decode m_Cl_writeGate.2.1 55 = .ok (.ixor, 1) := by decide +kernel
theorem d_Cl_writeGate_56 : decode m_Cl_writeGate.2.1 56 = .ok (.invokevirtual 52, 3) := by decide +kernel
theorem d_Cl_writeGate_59 : decode m_Cl_writeGate.2.1 59 = .ok (.goto 97, 3) := by decide +kernel
theorem d_Cl_writeGate_62 : decode m_Cl_writeGate.2.1 62 = .ok (.aload_n 0, 1) := by decide +kernel
theorem d_Cl_writeGate_63 : decode m_Cl_writeGate.2.1 63 = .ok (.iload_n 2, 1) := by decide +kernel
theorem d_Cl_writeGate_64 : decode m_Cl_writeGate.2.1 64 = .ok (.iconst 1, 1) := by decide +kernel
theorem d_Cl_writeGate_65 : decode m_Cl_writeGate.2.1 65 = .ok (.ixor, 1) := by decide +kernel
theorem d_Cl_writeGate_66 : decode m_Cl_writeGate.2.1 66 = .ok (.iload_n 3, 1) := by decide +kernel
theorem d_Cl_writeGate_67 : decode m_Cl_writeGate.2.1 67 = .ok (.iload 4, 2) := by decide +kernel
theorem d_Cl_writeGate_69 : decode m_Cl_writeGate.2.1 69 = .ok (.invokevirtual 52, 3) := by decide +kernel
theorem d_Cl_writeGate_72 : decode m_Cl_writeGate.2.1 72 = .ok (.aload_n 0, 1) := by decide +kernel
theorem d_Cl_writeGate_73 : decode m_Cl_writeGate.2.1 73 = .ok (.iload_n 2, 1) := by decide +kernel
theorem d_Cl_writeGate_74 : decode m_Cl_writeGate.2.1 74 = .ok (.iconst 1, 1) := by decide +kernel
theorem d_Cl_writeGate_75 : decode m_Cl_writeGate.2.1 75 = .ok (.ixor, 1) := by decide +kernel
theorem d_Cl_writeGate_76 : decode m_Cl_writeGate.2.1 76 = .ok (.iload_n 3, 1) := by decide +kernel
theorem d_Cl_writeGate_77 : decode m_Cl_writeGate.2.1 77 = .ok (.iconst 1, 1) := by decide +kernel
theorem d_Cl_writeGate_78 : decode m_Cl_writeGate.2.1 78 = .ok (.ixor, 1) := by decide +kernel
theorem d_Cl_writeGate_79 : decode m_Cl_writeGate.2.1 79 = .ok (.iload 4, 2) := by decide +kernel
theorem d_Cl_writeGate_81 : decode m_Cl_writeGate.2.1 81 = .ok (.iconst 1, 1) := by decide +kernel
theorem d_Cl_writeGate_82 : decode m_Cl_writeGate.2.1 82 = .ok (.ixor, 1) := by decide +kernel
theorem d_Cl_writeGate_83 : decode m_Cl_writeGate.2.1 83 = .ok (.invokevirtual 52, 3) := by decide +kernel
theorem d_Cl_writeGate_86 : decode m_Cl_writeGate.2.1 86 = .ok (.aload_n 0, 1) := by decide +kernel
theorem d_Cl_writeGate_87 : decode m_Cl_writeGate.2.1 87 = .ok (.iload_n 2, 1) := by decide +kernel
theorem d_Cl_writeGate_88 : decode m_Cl_writeGate.2.1 88 = .ok (.iload_n 3, 1) := by decide +kernel
theorem d_Cl_writeGate_89 : decode m_Cl_writeGate.2.1 89 = .ok (.iconst 1, 1) := by decide +kernel
theorem d_Cl_writeGate_90 : decode m_Cl_writeGate.2.1 90 = .ok (.ixor, 1) := by decide +kernel
theorem d_Cl_writeGate_91 : decode m_Cl_writeGate.2.1 91 = .ok (.iload 4, 2) := by decide +kernel
theorem d_Cl_writeGate_93 : decode m_Cl_writeGate.2.1 93 = .ok (.invokevirtual 52, 3) := by decide +kernel
theorem d_Cl_writeGate_96 : decode m_Cl_writeGate.2.1 96 = .ok (.aload_n 0, 1) := by decide +kernel
theorem d_Cl_writeGate_97 : decode m_Cl_writeGate.2.1 97 = .ok (.iload_n 2, 1) := by decide +kernel
theorem d_Cl_writeGate_98 : decode m_Cl_writeGate.2.1 98 = .ok (.iload_n 3, 1) := by decide +kernel
theorem d_Cl_writeGate_99 : decode m_Cl_writeGate.2.1 99 = .ok (.iload 4, 2) := by decide +kernel
theorem d_Cl_writeGate_101 : decode m_Cl_writeGate.2.1 101 = .ok (.iconst 1, 1) := by decide +kernel
theorem d_Cl_writeGate_102 : decode m_Cl_writeGate.2.1 102 = .ok (.ixor, 1) := by decide +kernel
theorem d_Cl_writeGate_103 : decode m_Cl_writeGate.2.1 103 = .ok (.invokevirtual 52, 3) := by decide +kernel
theorem d_Cl_writeGate_106 : decode m_Cl_writeGate.2.1 106 = .ok (.goto 50, 3) := by decide +kernel
theorem d_Cl_writeGate_109 : decode m_Cl_writeGate.2.1 109 = .ok (.aload_n 0, 1) := by decide +kernel
theorem d_Cl_writeGate_110 : decode m_Cl_writeGate.2.1 110 = .ok (.iload_n 2, 1) := by decide +kernel
theorem d_Cl_writeGate_111 : decode m_Cl_writeGate.2.1 111 = .ok (.iload_n 3, 1) := by decide +kernel
theorem d_Cl_writeGate_112 : decode m_Cl_writeGate.2.1 112 = .ok (.iconst 1, 1) := by decide +kernel
theorem d_Cl_writeGate_113 : decode m_Cl_writeGate.2.1 113 = .ok (.ixor, 1) := by decide +kernel
theorem d_Cl_writeGate_114 : decode m_Cl_writeGate.2.1 114 = .ok (.iload 4, 2) := by decide +kernel
theorem d_Cl_writeGate_116 : decode m_Cl_writeGate.2.1 116 = .ok (.iconst 1, 1) := by decide +kernel
theorem d_Cl_writeGate_117 : decode m_Cl_writeGate.2.1 117 = .ok (.ixor, 1) := by decide +kernel
theorem d_Cl_writeGate_118 : decode m_Cl_writeGate.2.1 118 = .ok (.invokevirtual 52, 3) := by decide +kernel
theorem d_Cl_writeGate_121 : decode m_Cl_writeGate.2.1 121 = .ok (.aload_n 0, 1) := by decide +kernel
theorem d_Cl_writeGate_122 : decode m_Cl_writeGate.2.1 122 = .ok (.iload_n 2, 1) := by decide +kernel
theorem d_Cl_writeGate_123 : decode m_Cl_writeGate.2.1 123 = .ok (.iconst 1, 1) := by decide +kernel
theorem d_Cl_writeGate_124 : decode m_Cl_writeGate.2.1 124 = .ok (.ixor, 1) := by decide +kernel
theorem d_Cl_writeGate_125 : decode m_Cl_writeGate.2.1 125 = .ok (.iload_n 3, 1) := by decide +kernel
theorem d_Cl_writeGate_126 : decode m_Cl_writeGate.2.1 126 = .ok (.iconst 1, 1) := by decide +kernel
theorem d_Cl_writeGate_127 : decode m_Cl_writeGate.2.1 127 = .ok (.ixor, 1) := by decide +kernel
theorem d_Cl_writeGate_128 : decode m_Cl_writeGate.2.1 128 = .ok (.iload 4, 2) := by decide +kernel
theorem d_Cl_writeGate_130 : decode m_Cl_writeGate.2.1 130 = .ok (.invokevirtual 52, 3) := by decide +kernel
theorem d_Cl_writeGate_133 : decode m_Cl_writeGate.2.1 133 = .ok (.aload_n 0, 1) := by decide +kernel
theorem d_Cl_writeGate_134 : decode m_Cl_writeGate.2.1 134 = .ok (.iload_n 2, 1) := by decide +kernel
theorem d_Cl_writeGate_135 : decode m_Cl_writeGate.2.1 135 = .ok (.iload_n 3, 1) := by decide +kernel
theorem d_Cl_writeGate_136 : decode m_Cl_writeGate.2.1 136 = .ok (.iload 5, 2) := by decide +kernel
theorem d_Cl_writeGate_138 : decode m_Cl_writeGate.2.1 138 = .ok (.iconst 1, 1) := by decide +kernel
theorem d_Cl_writeGate_139 : decode m_Cl_writeGate.2.1 139 = .ok (.ixor, 1) := by decide +kernel
theorem d_Cl_writeGate_140 : decode m_Cl_writeGate.2.1 140 = .ok (.invokevirtual 52, 3) := by decide +kernel
theorem d_Cl_writeGate_143 : decode m_Cl_writeGate.2.1 143 = .ok (.aload_n 0, 1) := by decide +kernel
theorem d_Cl_writeGate_144 : decode m_Cl_writeGate.2.1 144 = .ok (.iload_n 2, 1) := by decide +kernel
theorem d_Cl_writeGate_145 : decode m_Cl_writeGate.2.1 145 = .ok (.iconst 1, 1) := by decide +kernel
theorem d_Cl_writeGate_146 : decode m_Cl_writeGate.2.1 146 = .ok (.ixor, 1) := by decide +kernel
theorem d_Cl_writeGate_147 : decode m_Cl_writeGate.2.1 147 = .ok (.iload_n 3, 1) := by decide +kernel
theorem d_Cl_writeGate_148 : decode m_Cl_writeGate.2.1 148 = .ok (.iload 5, 2) := by decide +kernel
theorem d_Cl_writeGate_150 : decode m_Cl_writeGate.2.1 150 = .ok (.invokevirtual 52, 3) := by decide +kernel
theorem d_Cl_writeGate_153 : decode m_Cl_writeGate.2.1 153 = .ok (.goto 3, 3) := by decide +kernel
theorem d_Cl_writeGate_156 : decode m_Cl_writeGate.2.1 156 = .ok (.return_, 1) := by decide +kernel
theorem d_Cl_put_0 : decode m_Cl_put.2.1 0 = .ok (.iload_n 3, 1) := by decide +kernel
theorem d_Cl_put_1 : decode m_Cl_put.2.1 1 = .ok (.ifCond .ne 7, 3) := by decide +kernel
theorem d_Cl_put_4 : decode m_Cl_put.2.1 4 = .ok (.iconst 2, 1) := by decide +kernel
theorem d_Cl_put_5 : decode m_Cl_put.2.1 5 = .ok (.goto 4, 3) := by decide +kernel
theorem d_Cl_put_8 : decode m_Cl_put.2.1 8 = .ok (.iconst 3, 1) := by decide +kernel
theorem d_Cl_put_9 : decode m_Cl_put.2.1 9 = .ok (.istore 4, 2) := by decide +kernel
theorem d_Cl_put_11 : decode m_Cl_put.2.1 11 = .ok (.aload_n 0, 1) := by decide +kernel
theorem d_Cl_put_12 : decode m_Cl_put.2.1 12 = .ok (.getfield 22, 3) := by decide +kernel
theorem d_Cl_put_15 : decode m_Cl_put.2.1 15 = .ok (.iconst 3, 1) := by decide +kernel
theorem d_Cl_put_16 : decode m_Cl_put.2.1 16 = .ok (.iadd, 1) := by decide +kernel
theorem d_Cl_put_17 : decode m_Cl_put.2.1 17 = .ok (.iload 4, 2) := by decide +kernel
theorem d_Cl_put_19 : decode m_Cl_put.2.1 19 = .ok (.iadd, 1) := by decide +kernel
theorem d_Cl_put_20 : decode m_Cl_put.2.1 20 = .ok (.ldc 9, 2) := by decide +kernel
theorem d_Cl_put_22 : decode m_Cl_put.2.1 22 = .ok (.if_icmp .le 14, 3) := by decide +kernel
theorem d_Cl_put_25 : decode m_Cl_put.2.1 25 = .ok (.aload_n 0, 1) := by decide +kernel
theorem d_Cl_put_26 : decode m_Cl_put.2.1 26 = .ok (.dup, 1) := by decide +kernel
theorem d_Cl_put_27 : decode m_Cl_put.2.1 27 = .ok (.getfield 56, 3) := by decide +kernel
theorem d_Cl_put_30 : decode m_Cl_put.2.1 30 = .ok (.iconst 1, 1) := by decide +kernel
theorem d_Cl_put_31 : decode m_Cl_put.2.1 31 = .ok (.iadd, 1) := by decide +kernel
theorem d_Cl_put_32 : decode m_Cl_put.2.1 32 = .ok (.putfield 56, 3) := by decide +kernel
theorem d_Cl_put_35 : decode m_Cl_put.2.1 35 = .ok (.return_, 1) := by decide +kernel
theorem d_Cl_put_36 : decode m_Cl_put.2.1 36 = .ok (.aload_n 0, 1) := by decide +kernel
theorem d_Cl_put_37 : decode m_Cl_put.2.1 37 = .ok (.getfield 10, 3) := by decide +kernel
theorem d_Cl_put_40 : decode m_Cl_put.2.1 40 = .ok (.aload_n 0, 1) := by decide +kernel
theorem d_Cl_put_41 : decode m_Cl_put.2.1 41 = .ok (.getfield 22, 3) := by decide +kernel
theorem d_Cl_put_44 : decode m_Cl_put.2.1 44 = .ok (.iload 4, 2) := by decide +kernel
theorem d_Cl_put_46 : decode m_Cl_put.2.1 46 = .ok (.iastore, 1) := by decide +kernel
theorem d_Cl_put_47 : decode m_Cl_put.2.1 47 = .ok (.aload_n 0, 1) := by decide +kernel
theorem d_Cl_put_48 : decode m_Cl_put.2.1 48 = .ok (.getfield 10, 3) := by decide +kernel
theorem d_Cl_put_51 : decode m_Cl_put.2.1 51 = .ok (.aload_n 0, 1) := by decide +kernel
theorem d_Cl_put_52 : decode m_Cl_put.2.1 52 = .ok (.getfield 22, 3) := by decide +kernel
theorem d_Cl_put_55 : decode m_Cl_put.2.1 55 = .ok (.iconst 3, 1) := by decide +kernel
theorem d_Cl_put_56 : decode m_Cl_put.2.1 56 = .ok (.iadd, 1) := by decide +kernel
theorem d_Cl_put_57 : decode m_Cl_put.2.1 57 = .ok (.iload_n 1, 1) := by decide +kernel
theorem d_Cl_put_58 : decode m_Cl_put.2.1 58 = .ok (.iastore, 1) := by decide +kernel
theorem d_Cl_put_59 : decode m_Cl_put.2.1 59 = .ok (.aload_n 0, 1) := by decide +kernel
theorem d_Cl_put_60 : decode m_Cl_put.2.1 60 = .ok (.getfield 10, 3) := by decide +kernel
theorem d_Cl_put_63 : decode m_Cl_put.2.1 63 = .ok (.aload_n 0, 1) := by decide +kernel
theorem d_Cl_put_64 : decode m_Cl_put.2.1 64 = .ok (.getfield 22, 3) := by decide +kernel
theorem d_Cl_put_67 : decode m_Cl_put.2.1 67 = .ok (.iconst 3, 1) := by decide +kernel
theorem d_Cl_put_68 : decode m_Cl_put.2.1 68 = .ok (.iadd, 1) := by decide +kernel
theorem d_Cl_put_69 : decode m_Cl_put.2.1 69 = .ok (.iconst 1, 1) := by decide +kernel
theorem d_Cl_put_70 : decode m_Cl_put.2.1 70 = .ok (.iadd, 1) := by decide +kernel
theorem d_Cl_put_71 : decode m_Cl_put.2.1 71 = .ok (.iload_n 2, 1) := by decide +kernel
theorem d_Cl_put_72 : decode m_Cl_put.2.1 72 = .ok (.iastore, 1) := by decide +kernel
theorem d_Cl_put_73 : decode m_Cl_put.2.1 73 = .ok (.iload 4, 2) := by decide +kernel
theorem d_Cl_put_75 : decode m_Cl_put.2.1 75 = .ok (.iconst 3, 1) := by decide +kernel
theorem d_Cl_put_76 : decode m_Cl_put.2.1 76 = .ok (.if_icmp .ne 17, 3) := by decide +kernel
theorem d_Cl_put_79 : decode m_Cl_put.2.1 79 = .ok (.aload_n 0, 1) := by decide +kernel
theorem d_Cl_put_80 : decode m_Cl_put.2.1 80 = .ok (.getfield 10, 3) := by decide +kernel
theorem d_Cl_put_83 : decode m_Cl_put.2.1 83 = .ok (.aload_n 0, 1) := by decide +kernel
theorem d_Cl_put_84 : decode m_Cl_put.2.1 84 = .ok (.getfield 22, 3) := by decide +kernel
theorem d_Cl_put_87 : decode m_Cl_put.2.1 87 = .ok (.iconst 3, 1) := by decide +kernel
theorem d_Cl_put_88 : decode m_Cl_put.2.1 88 = .ok (.iadd, 1) := by decide +kernel
theorem d_Cl_put_89 : decode m_Cl_put.2.1 89 = .ok (.iconst 2, 1) := by decide +kernel
theorem d_Cl_put_90 : decode m_Cl_put.2.1 90 = .ok (.iadd, 1) := by decide +kernel
theorem d_Cl_put_91 : decode m_Cl_put.2.1 91 = .ok (.iload_n 3, 1) := by decide +kernel
theorem d_Cl_put_92 : decode m_Cl_put.2.1 92 = .ok (.iastore, 1) := by decide +kernel
theorem d_Cl_put_93 : decode m_Cl_put.2.1 93 = .ok (.aload_n 0, 1) := by decide +kernel
theorem d_Cl_put_94 : decode m_Cl_put.2.1 94 = .ok (.aload_n 0, 1) := by decide +kernel
theorem d_Cl_put_95 : decode m_Cl_put.2.1 95 = .ok (.getfield 22, 3) := by decide +kernel
theorem d_Cl_put_98 : decode m_Cl_put.2.1 98 = .ok (.invokevirtual 59, 3) := by decide +kernel
theorem d_Cl_put_101 : decode m_Cl_put.2.1 101 = .ok (.aload_n 0, 1) := by decide +kernel
theorem d_Cl_put_102 : decode m_Cl_put.2.1 102 = .ok (.dup, 1) := by decide +kernel
theorem d_Cl_put_103 : decode m_Cl_put.2.1 103 = .ok (.getfield 22, 3) := by decide +kernel
theorem d_Cl_put_106 : decode m_Cl_put.2.1 106 = .ok (.iconst 3, 1) := by decide +kernel
theorem d_Cl_put_107 : decode m_Cl_put.2.1 107 = .ok (.iload 4, 2) := by decide +kernel
theorem d_Cl_put_109 : decode m_Cl_put.2.1 109 = .ok (.iadd, 1) := by decide +kernel
theorem d_Cl_put_110 : decode m_Cl_put.2.1 110 = .ok (.iadd, 1) := by decide +kernel
theorem d_Cl_put_111 : decode m_Cl_put.2.1 111 = .ok (.putfield 22, 3) := by decide +kernel
theorem d_Cl_put_114 : decode m_Cl_put.2.1 114 = .ok (.return_, 1) := by decide +kernel
theorem d_Cl_watch_0 : decode m_Cl_watch.2.1 0 = .ok (.aload_n 0, 1) := by decide +kernel
theorem d_Cl_watch_1 : decode m_Cl_watch.2.1 1 = .ok (.getfield 10, 3) := by decide +kernel
theorem d_Cl_watch_4 : decode m_Cl_watch.2.1 4 = .ok (.iload_n 1, 1) := by decide +kernel
theorem d_Cl_watch_5 : decode m_Cl_watch.2.1 5 = .ok (.iconst 3, 1) := by decide +kernel
theorem d_Cl_watch_6 : decode m_Cl_watch.2.1 6 = .ok (.iadd, 1) := by decide +kernel
theorem d_Cl_watch_7 : decode m_Cl_watch.2.1 7 = .ok (.iaload, 1) := by decide +kernel
theorem d_Cl_watch_8 : decode m_Cl_watch.2.1 8 = .ok (.istore_n 2, 1) := by decide +kernel
theorem d_Cl_watch_9 : decode m_Cl_watch.2.1 9 = .ok (.aload_n 0, 1) := by decide +kernel
theorem d_Cl_watch_10 : decode m_Cl_watch.2.1 10 = .ok (.getfield 10, 3) := by decide +kernel
theorem d_Cl_watch_13 : decode m_Cl_watch.2.1 13 = .ok (.iload_n 1, 1) := by decide +kernel
theorem d_Cl_watch_14 : decode m_Cl_watch.2.1 14 = .ok (.iconst 3, 1) := by decide +kernel
theorem d_Cl_watch_15 : decode m_Cl_watch.2.1 15 = .ok (.iadd, 1) := by decide +kernel
theorem d_Cl_watch_16 : decode m_Cl_watch.2.1 16 = .ok (.iconst 1, 1) := by decide +kernel
theorem d_Cl_watch_17 : decode m_Cl_watch.2.1 17 = .ok (.iadd, 1) := by decide +kernel
theorem d_Cl_watch_18 : decode m_Cl_watch.2.1 18 = .ok (.iaload, 1) := by decide +kernel
theorem d_Cl_watch_19 : decode m_Cl_watch.2.1 19 = .ok (.istore_n 3, 1) := by decide +kernel
theorem d_Cl_watch_20 : decode m_Cl_watch.2.1 20 = .ok (.aload_n 0, 1) := by decide +kernel
theorem d_Cl_watch_21 : decode m_Cl_watch.2.1 21 = .ok (.getfield 10, 3) := by decide +kernel
theorem d_Cl_watch_24 : decode m_Cl_watch.2.1 24 = .ok (.iload_n 1, 1) := by decide +kernel
theorem d_Cl_watch_25 : decode m_Cl_watch.2.1 25 = .ok (.iconst 1, 1) := by decide +kernel
theorem d_Cl_watch_26 : decode m_Cl_watch.2.1 26 = .ok (.iadd, 1) := by decide +kernel
theorem d_Cl_watch_27 : decode m_Cl_watch.2.1 27 = .ok (.aload_n 0, 1) := by decide +kernel
theorem d_Cl_watch_28 : decode m_Cl_watch.2.1 28 = .ok (.getfield 16, 3) := by decide +kernel
theorem d_Cl_watch_31 : decode m_Cl_watch.2.1 31 = .ok (.iload_n 2, 1) := by decide +kernel
theorem d_Cl_watch_32 : decode m_Cl_watch.2.1 32 = .ok (.iaload, 1) := by decide +kernel
theorem d_Cl_watch_33 : decode m_Cl_watch.2.1 33 = .ok (.iastore, 1) := by decide +kernel
theorem d_Cl_watch_34 : decode m_Cl_watch.2.1 34 = .ok (.aload_n 0, 1) := by decide +kernel
theorem d_Cl_watch_35 : decode m_Cl_watch.2.1 35 = .ok (.getfield 16, 3) := by decide +kernel
theorem d_Cl_watch_38 : decode m_Cl_watch.2.1 38 = .ok (.iload_n 2, 1) := by decide +kernel
theorem d_Cl_watch_39 : decode m_Cl_watch.2.1 39 = .ok (.iload_n 1, 1) := by decide +kernel
theorem d_Cl_watch_40 : decode m_Cl_watch.2.1 40 = .ok (.iastore, 1) := by decide +kernel
theorem d_Cl_watch_41 : decode m_Cl_watch.2.1 41 = .ok (.aload_n 0, 1) := by decide +kernel
theorem d_Cl_watch_42 : decode m_Cl_watch.2.1 42 = .ok (.getfield 10, 3) := by decide +kernel
theorem d_Cl_watch_45 : decode m_Cl_watch.2.1 45 = .ok (.iload_n 1, 1) := by decide +kernel
theorem d_Cl_watch_46 : decode m_Cl_watch.2.1 46 = .ok (.iconst 2, 1) := by decide +kernel
theorem d_Cl_watch_47 : decode m_Cl_watch.2.1 47 = .ok (.iadd, 1) := by decide +kernel
theorem d_Cl_watch_48 : decode m_Cl_watch.2.1 48 = .ok (.aload_n 0, 1) := by decide +kernel
theorem d_Cl_watch_49 : decode m_Cl_watch.2.1 49 = .ok (.getfield 16, 3) := by decide +kernel
theorem d_Cl_watch_52 : decode m_Cl_watch.2.1 52 = .ok (.iload_n 3, 1) := by decide +kernel
theorem d_Cl_watch_53 : decode m_Cl_watch.2.1 53 = .ok (.iaload, 1) := by decide +kernel
theorem d_Cl_watch_54 : decode m_Cl_watch.2.1 54 = .ok (.iastore, 1) := by decide +kernel
theorem d_Cl_watch_55 : decode m_Cl_watch.2.1 55 = .ok (.aload_n 0, 1) := by decide +kernel
theorem d_Cl_watch_56 : decode m_Cl_watch.2.1 56 = .ok (.getfield 16, 3) := by decide +kernel
theorem d_Cl_watch_59 : decode m_Cl_watch.2.1 59 = .ok (.iload_n 3, 1) := by decide +kernel
theorem d_Cl_watch_60 : decode m_Cl_watch.2.1 60 = .ok (.iload_n 1, 1) := by decide +kernel
theorem d_Cl_watch_61 : decode m_Cl_watch.2.1 61 = .ok (.iastore, 1) := by decide +kernel
theorem d_Cl_watch_62 : decode m_Cl_watch.2.1 62 = .ok (.return_, 1) := by decide +kernel
theorem d_Ch_clear_0 : decode m_Ch_clear.2.1 0 = .ok (.aload_n 0, 1) := by decide +kernel
theorem d_Ch_clear_1 : decode m_Ch_clear.2.1 1 = .ok (.getfield 11, 3) := by decide +kernel
theorem d_Ch_clear_4 : decode m_Ch_clear.2.1 4 = .ok (.iconst 2, 1) := by decide +kernel
theorem d_Ch_clear_5 : decode m_Ch_clear.2.1 5 = .ok (.iload_n 1, 1) := by decide +kernel
theorem d_Ch_clear_6 : decode m_Ch_clear.2.1 6 = .ok (.imul, 1) := by decide +kernel
theorem d_Ch_clear_7 : decode m_Ch_clear.2.1 7 = .ok (.invokestatic 20, 3) := by decide +kernel
theorem d_Ch_clear_10 : decode m_Ch_clear.2.1 10 = .ok (.aload_n 0, 1) := by decide +kernel
theorem d_Ch_clear_11 : decode m_Ch_clear.2.1 11 = .ok (.getfield 11, 3) := by decide +kernel
theorem d_Ch_clear_14 : decode m_Ch_clear.2.1 14 = .ok (.iconst 0, 1) := by decide +kernel
theorem d_Ch_clear_15 : decode m_Ch_clear.2.1 15 = .ok (.iconst 1, 1) := by decide +kernel
theorem d_Ch_clear_16 : decode m_Ch_clear.2.1 16 = .ok (.iastore, 1) := by decide +kernel
theorem d_Ch_clear_17 : decode m_Ch_clear.2.1 17 = .ok (.return_, 1) := by decide +kernel
theorem d_Cl_add_0 : decode m_Cl_add.2.1 0 = .ok (.aload_n 0, 1) := by decide +kernel
theorem d_Cl_add_1 : decode m_Cl_add.2.1 1 = .ok (.getfield 22, 3) := by decide +kernel
theorem d_Cl_add_4 : decode m_Cl_add.2.1 4 = .ok (.iconst 3, 1) := by decide +kernel
theorem d_Cl_add_5 : decode m_Cl_add.2.1 5 = .ok (.iadd, 1) := by decide +kernel
theorem d_Cl_add_6 : decode m_Cl_add.2.1 6 = .ok (.iload_n 2, 1) := by decide +kernel
theorem d_Cl_add_7 : decode m_Cl_add.2.1 7 = .ok (.iadd, 1) := by decide +kernel
theorem d_Cl_add_8 : decode m_Cl_add.2.1 8 = .ok (.ldc 9, 2) := by decide +kernel
theorem d_Cl_add_10 : decode m_Cl_add.2.1 10 = .ok (.if_icmp .le 15, 3) := by decide +kernel
theorem d_Cl_add_13 : decode m_Cl_add.2.1 13 = .ok (.aload_n 0, 1) := by decide +kernel
theorem d_Cl_add_14 : decode m_Cl_add.2.1 14 = .ok (.dup, 1) := by decide +kernel
theorem d_Cl_add_15 : decode m_Cl_add.2.1 15 = .ok (.getfield 56, 3) := by decide +kernel
theorem d_Cl_add_18 : decode m_Cl_add.2.1 18 = .ok (.iconst 1, 1) := by decide +kernel
theorem d_Cl_add_19 : decode m_Cl_add.2.1 19 = .ok (.iadd, 1) := by decide +kernel
theorem d_Cl_add_20 : decode m_Cl_add.2.1 20 = .ok (.putfield 56, 3) := by decide +kernel
theorem d_Cl_add_23 : decode m_Cl_add.2.1 23 = .ok (.iconst 0, 1) := by decide +kernel
theorem d_Cl_add_24 : decode m_Cl_add.2.1 24 = .ok (.ireturn, 1) := by decide +kernel
theorem d_Cl_add_25 : decode m_Cl_add.2.1 25 = .ok (.aload_n 0, 1) := by decide +kernel
theorem d_Cl_add_26 : decode m_Cl_add.2.1 26 = .ok (.getfield 22, 3) := by decide +kernel
theorem d_Cl_add_29 : decode m_Cl_add.2.1 29 = .ok (.istore_n 3, 1) := by decide +kernel
theorem d_Cl_add_30 : decode m_Cl_add.2.1 30 = .ok (.aload_n 0, 1) := by decide +kernel
theorem d_Cl_add_31 : decode m_Cl_add.2.1 31 = .ok (.getfield 10, 3) := by decide +kernel
theorem d_Cl_add_34 : decode m_Cl_add.2.1 34 = .ok (.iload_n 3, 1) := by decide +kernel
theorem d_Cl_add_35 : decode m_Cl_add.2.1 35 = .ok (.iload_n 2, 1) := by decide +kernel
theorem d_Cl_add_36 : decode m_Cl_add.2.1 36 = .ok (.iastore, 1) := by decide +kernel
theorem d_Cl_add_37 : decode m_Cl_add.2.1 37 = .ok (.aload_n 1, 1) := by decide +kernel
theorem d_Cl_add_38 : decode m_Cl_add.2.1 38 = .ok (.iconst 0, 1) := by decide +kernel
theorem d_Cl_add_39 : decode m_Cl_add.2.1 39 = .ok (.aload_n 0, 1) := by decide +kernel
theorem d_Cl_add_40 : decode m_Cl_add.2.1 40 = .ok (.getfield 10, 3) := by decide +kernel
theorem d_Cl_add_43 : decode m_Cl_add.2.1 43 = .ok (.iload_n 3, 1) := by decide +kernel
theorem d_Cl_add_44 : decode m_Cl_add.2.1 44 = .ok (.iconst 3, 1) := by decide +kernel
theorem d_Cl_add_45 : decode m_Cl_add.2.1 45 = .ok (.iadd, 1) := by decide +kernel
theorem d_Cl_add_46 : decode m_Cl_add.2.1 46 = .ok (.iload_n 2, 1) := by decide +kernel
theorem d_Cl_add_47 : decode m_Cl_add.2.1 47 = .ok (.invokestatic 63, 3) := by decide +kernel
theorem d_Cl_add_50 : decode m_Cl_add.2.1 50 = .ok (.iload_n 2, 1) := by decide +kernel
theorem d_Cl_add_51 : decode m_Cl_add.2.1 51 = .ok (.iconst 1, 1) := by decide +kernel
theorem d_Cl_add_52 : decode m_Cl_add.2.1 52 = .ok (.if_icmp .le 8, 3) := by decide +kernel
theorem d_Cl_add_55 : decode m_Cl_add.2.1 55 = .ok (.aload_n 0, 1) := by decide +kernel
theorem d_Cl_add_56 : decode m_Cl_add.2.1 56 = .ok (.iload_n 3, 1) := by decide +kernel
theorem d_Cl_add_57 : decode m_Cl_add.2.1 57 = .ok (.invokevirtual 59, 3) := by decide +kernel
theorem d_Cl_add_60 : decode m_Cl_add.2.1 60 = .ok (.aload_n 0, 1) := by decide +kernel
theorem d_Cl_add_61 : decode m_Cl_add.2.1 61 = .ok (.dup, 1) := by decide +kernel
theorem d_Cl_add_62 : decode m_Cl_add.2.1 62 = .ok (.getfield 22, 3) := by decide +kernel
theorem d_Cl_add_65 : decode m_Cl_add.2.1 65 = .ok (.iconst 3, 1) := by decide +kernel
theorem d_Cl_add_66 : decode m_Cl_add.2.1 66 = .ok (.iload_n 2, 1) := by decide +kernel
theorem d_Cl_add_67 : decode m_Cl_add.2.1 67 = .ok (.iadd, 1) := by decide +kernel
theorem d_Cl_add_68 : decode m_Cl_add.2.1 68 = .ok (.iadd, 1) := by decide +kernel
theorem d_Cl_add_69 : decode m_Cl_add.2.1 69 = .ok (.putfield 22, 3) := by decide +kernel
theorem d_Cl_add_72 : decode m_Cl_add.2.1 72 = .ok (.iload_n 3, 1) := by decide +kernel
theorem d_Cl_add_73 : decode m_Cl_add.2.1 73 = .ok (.ireturn, 1) := by decide +kernel
theorem d_Ch_knows_0 : decode m_Ch_knows.2.1 0 = .ok (.aload_n 0, 1) := by decide +kernel
theorem d_Ch_knows_1 : decode m_Ch_knows.2.1 1 = .ok (.getfield 11, 3) := by decide +kernel
theorem d_Ch_knows_4 : decode m_Ch_knows.2.1 4 = .ok (.iload_n 1, 1) := by decide +kernel
theorem d_Ch_knows_5 : decode m_Ch_knows.2.1 5 = .ok (.iaload, 1) := by decide +kernel
theorem d_Ch_knows_6 : decode m_Ch_knows.2.1 6 = .ok (.iconst 1, 1) := by decide +kernel
theorem d_Ch_knows_7 : decode m_Ch_knows.2.1 7 = .ok (.if_icmp .ne 7, 3) := by decide +kernel
theorem d_Ch_knows_10 : decode m_Ch_knows.2.1 10 = .ok (.iconst 1, 1) := by decide +kernel
theorem d_Ch_knows_11 : decode m_Ch_knows.2.1 11 = .ok (.goto 4, 3) := by decide +kernel
theorem d_Ch_knows_14 : decode m_Ch_knows.2.1 14 = .ok (.iconst 0, 1) := by decide +kernel
theorem d_Ch_knows_15 : decode m_Ch_knows.2.1 15 = .ok (.ireturn, 1) := by decide +kernel
theorem d_Ch_check_0 : decode m_Ch_check.2.1 0 = .ok (.aload_n 0, 1) := by decide +kernel
theorem d_Ch_check_1 : decode m_Ch_check.2.1 1 = .ok (.aload_n 1, 1) := by decide +kernel
theorem d_Ch_check_2 : decode m_Ch_check.2.1 2 = .ok (.aload_n 2, 1) := by decide +kernel
theorem d_Ch_check_3 : decode m_Ch_check.2.1 3 = .ok (.iload_n 3, 1) := by decide +kernel
theorem d_Ch_check_4 : decode m_Ch_check.2.1 4 = .ok (.aload 4, 2) := by decide +kernel
theorem d_Ch_check_6 : decode m_Ch_check.2.1 6 = .ok (.iload 5, 2) := by decide +kernel
theorem d_Ch_check_8 : decode m_Ch_check.2.1 8 = .ok (.invokevirtual 24, 3) := by decide +kernel
theorem d_Ch_check_11 : decode m_Ch_check.2.1 11 = .ok (.ifCond .ne 16, 3) := by decide +kernel
theorem d_Ch_check_14 : decode m_Ch_check.2.1 14 = .ok (.aload_n 0, 1) := by decide +kernel
theorem d_Ch_check_15 : decode m_Ch_check.2.1 15 = .ok (.dup, 1) := by decide +kernel
theorem d_Ch_check_16 : decode m_Ch_check.2.1 16 = .ok (.getfield 28, 3) := by decide +kernel
theorem d_Ch_check_19 : decode m_Ch_check.2.1 19 = .ok (.iconst 1, 1) := by decide +kernel
theorem d_Ch_check_20 : decode m_Ch_check.2.1 20 = .ok (.iadd, 1) := by decide +kernel
theorem d_Ch_check_21 : decode m_Ch_check.2.1 21 = .ok (.putfield 28, 3) := by decide +kernel
theorem d_Ch_check_24 : decode m_Ch_check.2.1 24 = .ok (.goto 17, 3) := by decide +kernel
theorem d_Ch_check_27 : decode m_Ch_check.2.1 27 = .ok (.iload_n 3, 1) := by decide +kernel
theorem d_Ch_check_28 : decode m_Ch_check.2.1 28 = .ok (.iconst 1, 1) := by decide +kernel
theorem d_Ch_check_29 : decode m_Ch_check.2.1 29 = .ok (.if_icmp .ne 12, 3) := by decide +kernel
theorem d_Ch_check_32 : decode m_Ch_check.2.1 32 = .ok (.aload_n 0, 1) := by decide +kernel
theorem d_Ch_check_33 : decode m_Ch_check.2.1 33 = .ok (.getfield 11, 3) := by decide +kernel
theorem d_Ch_check_36 : decode m_Ch_check.2.1 36 = .ok (.aload_n 2, 1) := by decide +kernel
theorem d_Ch_check_37 : decode m_Ch_check.2.1 37 = .ok (.iconst 0, 1) := by decide +kernel
theorem d_Ch_check_38 : decode m_Ch_check.2.1 38 = .ok (.iaload, 1) := by decide +kernel
theorem d_Ch_check_39 : decode m_Ch_check.2.1 39 = .ok (.iconst 1, 1) := by decide +kernel
theorem d_Ch_check_40 : decode m_Ch_check.2.1 40 = .ok (.iastore, 1) := by decide +kernel
theorem d_Ch_check_41 : decode m_Ch_check.2.1 41 = .ok (.return_, 1) := by decide +kernel
theorem d_Ch_follows_0 : decode m_Ch_follows.2.1 0 = .ok (.aload_n 0, 1) := by decide +kernel
theorem d_Ch_follows_1 : decode m_Ch_follows.2.1 1 = .ok (.dup, 1) := by decide +kernel
theorem d_Ch_follows_2 : decode m_Ch_follows.2.1 2 = .ok (.getfield 32, 3) := by decide +kernel
theorem d_Ch_follows_5 : decode m_Ch_follows.2.1 5 = .ok (.iconst 1, 1) := by decide +kernel
theorem d_Ch_follows_6 : decode m_Ch_follows.2.1 6 = .ok (.iadd, 1) := by decide +kernel
theorem d_Ch_follows_7 : decode m_Ch_follows.2.1 7 = .ok (.putfield 32, 3) := by decide +kernel
theorem d_Ch_follows_10 : decode m_Ch_follows.2.1 10 = .ok (.iconst 0, 1) := by decide +kernel
theorem d_Ch_follows_11 : decode m_Ch_follows.2.1 11 = .ok (.istore 6, 2) := by decide +kernel
theorem d_Ch_follows_13 : decode m_Ch_follows.2.1 13 = .ok (.iload 6, 2) := by decide +kernel
theorem d_Ch_follows_15 : decode m_Ch_follows.2.1 15 = .ok (.iload_n 3, 1) := by decide +kernel
theorem d_Ch_follows_16 : decode m_Ch_follows.2.1 16 = .ok (.if_icmp .ge 55, 3) := by decide +kernel
theorem d_Ch_follows_19 : decode m_Ch_follows.2.1 19 = .ok (.aload_n 0, 1) := by decide +kernel
theorem d_Ch_follows_20 : decode m_Ch_follows.2.1 20 = .ok (.getfield 11, 3) := by decide +kernel
theorem d_Ch_follows_23 : decode m_Ch_follows.2.1 23 = .ok (.aload_n 2, 1) := by decide +kernel
theorem d_Ch_follows_24 : decode m_Ch_follows.2.1 24 = .ok (.iload 6, 2) := by decide +kernel
theorem d_Ch_follows_26 : decode m_Ch_follows.2.1 26 = .ok (.iaload, 1) := by decide +kernel
theorem d_Ch_follows_27 : decode m_Ch_follows.2.1 27 = .ok (.iaload, 1) := by decide +kernel
theorem d_Ch_follows_28 : decode m_Ch_follows.2.1 28 = .ok (.iconst 1, 1) := by decide +kernel
theorem d_Ch_follows_29 : decode m_Ch_follows.2.1 29 = .ok (.if_icmp .eq 19, 3) := by decide +kernel
theorem d_Ch_follows_32 : decode m_Ch_follows.2.1 32 = .ok (.aload_n 0, 1) := by decide +kernel
theorem d_Ch_follows_33 : decode m_Ch_follows.2.1 33 = .ok (.getfield 17, 3) := by decide +kernel
theorem d_Ch_follows_36 : decode m_Ch_follows.2.1 36 = .ok (.aload_n 2, 1) := by decide +kernel
theorem d_Ch_follows_37 : decode m_Ch_follows.2.1 37 = .ok (.iload 6, 2) := by decide +kernel
theorem d_Ch_follows_39 : decode m_Ch_follows.2.1 39 = .ok (.iaload, 1) := by decide +kernel
theorem d_Ch_follows_40 : decode m_Ch_follows.2.1 40 = .ok (.iaload, 1) := by decide +kernel
theorem d_Ch_follows_41 : decode m_Ch_follows.2.1 41 = .ok (.aload_n 0, 1) := by decide +kernel
theorem d_Ch_follows_42 : decode m_Ch_follows.2.1 42 = .ok (.getfield 32, 3) := by decide +kernel
theorem d_Ch_follows_45 : decode m_Ch_follows.2.1 45 = .ok (.if_icmp .ne 5, 3) := by decide +kernel
theorem d_Ch_follows_48 : decode m_Ch_follows.2.1 48 = .ok (.iconst 1, 1) := by decide +kernel
theorem d_Ch_follows_49 : decode m_Ch_follows.2.1 49 = .ok (.ireturn, 1) := by decide +kernel
theorem d_Ch_follows_50 : decode m_Ch_follows.2.1 50 = .ok (.aload_n 0, 1) := by decide +kernel
theorem d_Ch_follows_51 : decode m_Ch_follows.2.1 51 = .ok (.getfield 17, 3) := by decide +kernel
theorem d_Ch_follows_54 : decode m_Ch_follows.2.1 54 = .ok (.aload_n 2, 1) := by decide +kernel
theorem d_Ch_follows_55 : decode m_Ch_follows.2.1 55 = .ok (.iload 6, 2) := by decide +kernel
theorem d_Ch_follows_57 : decode m_Ch_follows.2.1 57 = .ok (.iaload, 1) := by decide +kernel
theorem d_Ch_follows_58 : decode m_Ch_follows.2.1 58 = .ok (.iconst 1, 1) := by decide +kernel
theorem d_Ch_follows_59 : decode m_Ch_follows.2.1 59 = .ok (.ixor, 1) := by decide +kernel
theorem d_Ch_follows_60 : decode m_Ch_follows.2.1 60 = .ok (.aload_n 0, 1) := by decide +kernel
theorem d_Ch_follows_61 : decode m_Ch_follows.2.1 61 = .ok (.getfield 32, 3) := by decide +kernel
theorem d_Ch_follows_64 : decode m_Ch_follows.2.1 64 = .ok (.iastore, 1) := by decide +kernel
theorem d_Ch_follows_65 : decode m_Ch_follows.2.1 65 = .ok (.iinc 6 1, 3) := by decide +kernel
theorem d_Ch_follows_68 : decode m_Ch_follows.2.1 68 = .ok (.goto (-55), 3) := by decide +kernel
theorem d_Ch_follows_71 : decode m_Ch_follows.2.1 71 = .ok (.iload 5, 2) := by decide +kernel
theorem d_Ch_follows_73 : decode m_Ch_follows.2.1 73 = .ok (.iconst 1, 1) := by decide +kernel
theorem d_Ch_follows_74 : decode m_Ch_follows.2.1 74 = .ok (.isub, 1) := by decide +kernel
theorem d_Ch_follows_75 : decode m_Ch_follows.2.1 75 = .ok (.istore 6, 2) := by decide +kernel
theorem d_Ch_follows_77 : decode m_Ch_follows.2.1 77 = .ok (.iload 6, 2) := by decide +kernel
theorem d_Ch_follows_79 : decode m_Ch_follows.2.1 79 = .ok (.ifCond .lt 62, 3) := by decide +kernel
theorem d_Ch_follows_82 : decode m_Ch_follows.2.1 82 = .ok (.aload 4, 2) := by decide +kernel
theorem d_Ch_follows_84 : decode m_Ch_follows.2.1 84 = .ok (.iload 6, 2) := by decide +kernel
theorem d_Ch_follows_86 : decode m_Ch_follows.2.1 86 = .ok (.iaload, 1) := by decide +kernel
theorem d_Ch_follows_87 : decode m_Ch_follows.2.1 87 = .ok (.ifCond .ne 8, 3) := by decide +kernel
theorem d_Ch_follows_90 : decode m_Ch_follows.2.1 90 = .ok (.bipush (-2), 2) := by decide +kernel
theorem d_Ch_follows_92 : decode m_Ch_follows.2.1 92 = .ok (.goto 13, 3) := by decide +kernel
theorem d_Ch_follows_95 : decode m_Ch_follows.2.1 95 = .ok (.aload_n 0, 1) := by decide +kernel
theorem d_Ch_follows_96 : decode m_Ch_follows.2.1 96 = .ok (.aload_n 1, 1) := by decide +kernel
theorem d_Ch_follows_97 : decode m_Ch_follows.2.1 97 = .ok (.aload 4, 2) := by decide +kernel
theorem d_Ch_follows_99 : decode m_Ch_follows.2.1 99 = .ok (.iload 6, 2) := by decide +kernel
theorem d_Ch_follows_101 : decode m_Ch_follows.2.1 101 = .ok (.iaload, 1) := by decide +kernel
theorem d_Ch_follows_102 : decode m_Ch_follows.2.1 102 = .ok (.invokevirtual 35, 3) := by decide +kernel
theorem d_Ch_follows_105 : decode m_Ch_follows.2.1 105 = .ok (.istore 7, 2) := by decide +kernel
theorem d_Ch_follows_107 : decode m_Ch_follows.2.1 107 = .ok (.iload 7, 2) := by decide +kernel
theorem d_Ch_follows_109 : decode m_Ch_follows.2.1 109 = .ok (.iconst (-1), 1) := by decide +kernel
theorem d_Ch_follows_110 : decode m_Ch_follows.2.1 110 = .ok (.if_icmp .ne 5, 3) := by decide +kernel
theorem d_Ch_follows_113 : decode m_Ch_follows.2.1 113 = .ok (.iconst 1, 1) := by decide +kernel
theorem d_Ch_follows_114 : decode m_Ch_follows.2.1 114 = .ok (.ireturn, 1) := by decide +kernel
theorem d_Ch_follows_115 : decode m_Ch_follows.2.1 115 = .ok (.iload 7, 2) := by decide +kernel
theorem d_Ch_follows_117 : decode m_Ch_follows.2.1 117 = .ok (.bipush (-2), 2) := by decide +kernel
theorem d_Ch_follows_119 : decode m_Ch_follows.2.1 119 = .ok (.if_icmp .ne 5, 3) := by decide +kernel
theorem d_Ch_follows_122 : decode m_Ch_follows.2.1 122 = .ok (.iconst 0, 1) := by decide +kernel
theorem d_Ch_follows_123 : decode m_Ch_follows.2.1 123 = .ok (.ireturn, 1) := by decide +kernel
theorem d_Ch_follows_124 : decode m_Ch_follows.2.1 124 = .ok (.aload_n 0, 1) := by decide +kernel
theorem d_Ch_follows_125 : decode m_Ch_follows.2.1 125 = .ok (.getfield 17, 3) := by decide +kernel
theorem d_Ch_follows_128 : decode m_Ch_follows.2.1 128 = .ok (.iload 7, 2) := by decide +kernel
theorem d_Ch_follows_130 : decode m_Ch_follows.2.1 130 = .ok (.aload_n 0, 1) := by decide +kernel
theorem d_Ch_follows_131 : decode m_Ch_follows.2.1 131 = .ok (.getfield 32, 3) := by decide +kernel
theorem d_Ch_follows_134 : decode m_Ch_follows.2.1 134 = .ok (.iastore, 1) := by decide +kernel
theorem d_Ch_follows_135 : decode m_Ch_follows.2.1 135 = .ok (.iinc 6 (-1), 3) := by decide +kernel
theorem d_Ch_follows_138 : decode m_Ch_follows.2.1 138 = .ok (.goto (-61), 3) := by decide +kernel
theorem d_Ch_follows_141 : decode m_Ch_follows.2.1 141 = .ok (.iconst 0, 1) := by decide +kernel
theorem d_Ch_follows_142 : decode m_Ch_follows.2.1 142 = .ok (.ireturn, 1) := by decide +kernel
theorem d_Ch_remainder_0 : decode m_Ch_remainder.2.1 0 = .ok (.iconst (-1), 1) := by decide +kernel
theorem d_Ch_remainder_1 : decode m_Ch_remainder.2.1 1 = .ok (.istore_n 3, 1) := by decide +kernel
theorem d_Ch_remainder_2 : decode m_Ch_remainder.2.1 2 = .ok (.iload_n 2, 1) := by decide +kernel
theorem d_Ch_remainder_3 : decode m_Ch_remainder.2.1 3 = .ok (.iconst 3, 1) := by decide +kernel
theorem d_Ch_remainder_4 : decode m_Ch_remainder.2.1 4 = .ok (.iadd, 1) := by decide +kernel
theorem d_Ch_remainder_5 : decode m_Ch_remainder.2.1 5 = .ok (.aload_n 1, 1) := by decide +kernel
theorem d_Ch_remainder_6 : decode m_Ch_remainder.2.1 6 = .ok (.iload_n 2, 1) := by decide +kernel
theorem d_Ch_remainder_7 : decode m_Ch_remainder.2.1 7 = .ok (.iaload, 1) := by decide +kernel
theorem d_Ch_remainder_8 : decode m_Ch_remainder.2.1 8 = .ok (.iadd, 1) := by decide +kernel
theorem d_Ch_remainder_9 : decode m_Ch_remainder.2.1 9 = .ok (.istore 4, 2) := by decide +kernel
theorem d_Ch_remainder_11 : decode m_Ch_remainder.2.1 11 = .ok (.iload_n 2, 1) := by decide +kernel
theorem d_Ch_remainder_12 : decode m_Ch_remainder.2.1 12 = .ok (.iconst 3, 1) := by decide +kernel
theorem d_Ch_remainder_13 : decode m_Ch_remainder.2.1 13 = .ok (.iadd, 1) := by decide +kernel
theorem d_Ch_remainder_14 : decode m_Ch_remainder.2.1 14 = .ok (.istore 5, 2) := by decide +kernel
theorem d_Ch_remainder_16 : decode m_Ch_remainder.2.1 16 = .ok (.iload 5, 2) := by decide +kernel
theorem d_Ch_remainder_18 : decode m_Ch_remainder.2.1 18 = .ok (.iload 4, 2) := by decide +kernel
theorem d_Ch_remainder_20 : decode m_Ch_remainder.2.1 20 = .ok (.if_icmp .ge 55, 3) := by decide +kernel
theorem d_Ch_remainder_23 : decode m_Ch_remainder.2.1 23 = .ok (.aload_n 1, 1) := by decide +kernel
theorem d_Ch_remainder_24 : decode m_Ch_remainder.2.1 24 = .ok (.iload 5, 2) := by decide +kernel
theorem d_Ch_remainder_26 : decode m_Ch_remainder.2.1 26 = .ok (.iaload, 1) := by decide +kernel
theorem d_Ch_remainder_27 : decode m_Ch_remainder.2.1 27 = .ok (.iconst 1, 1) := by decide +kernel
theorem d_Ch_remainder_28 : decode m_Ch_remainder.2.1 28 = .ok (.ixor, 1) := by decide +kernel
theorem d_Ch_remainder_29 : decode m_Ch_remainder.2.1 29 = .ok (.istore 6, 2) := by decide +kernel
theorem d_Ch_remainder_31 : decode m_Ch_remainder.2.1 31 = .ok (.aload_n 0, 1) := by decide +kernel
theorem d_Ch_remainder_32 : decode m_Ch_remainder.2.1 32 = .ok (.getfield 11, 3) := by decide +kernel
theorem d_Ch_remainder_35 : decode m_Ch_remainder.2.1 35 = .ok (.iload 6, 2) := by decide +kernel
theorem d_Ch_remainder_37 : decode m_Ch_remainder.2.1 37 = .ok (.iaload, 1) := by decide +kernel
theorem d_Ch_remainder_38 : decode m_Ch_remainder.2.1 38 = .ok (.iconst 1, 1) := by decide +kernel
theorem d_Ch_remainder_39 : decode m_Ch_remainder.2.1 39 = .ok (.if_icmp .eq 30, 3) := by decide +kernel
theorem d_Ch_remainder_42 : decode m_Ch_remainder.2.1 42 = .ok (.aload_n 0, 1) := by decide +kernel
theorem d_Ch_remainder_43 : decode m_Ch_remainder.2.1 43 = .ok (.getfield 17, 3) := by decide +kernel
theorem d_Ch_remainder_46 : decode m_Ch_remainder.2.1 46 = .ok (.iload 6, 2) := by decide +kernel
theorem d_Ch_remainder_48 : decode m_Ch_remainder.2.1 48 = .ok (.iaload, 1) := by decide +kernel
theorem d_Ch_remainder_49 : decode m_Ch_remainder.2.1 49 = .ok (.aload_n 0, 1) := by decide +kernel
theorem d_Ch_remainder_50 : decode m_Ch_remainder.2.1 50 = .ok (.getfield 32, 3) := by decide +kernel
theorem d_Ch_remainder_53 : decode m_Ch_remainder.2.1 53 = .ok (.if_icmp .eq 16, 3) := by decide +kernel
theorem d_Ch_remainder_56 : decode m_Ch_remainder.2.1 56 = .ok (.iload_n 3, 1) := by decide +kernel
theorem d_Ch_remainder_57 : decode m_Ch_remainder.2.1 57 = .ok (.iconst (-1), 1) := by decide +kernel
theorem d_Ch_remainder_58 : decode m_Ch_remainder.2.1 58 = .ok (.if_icmp .eq 6, 3) := by decide +kernel
theorem d_Ch_remainder_61 : decode m_Ch_remainder.2.1 61 = .ok (.bipush (-2), 2) := by decide +kernel
theorem d_Ch_remainder_63 : decode m_Ch_remainder.2.1 63 = .ok (.ireturn, 1) := by decide +kernel
theorem d_Ch_remainder_64 : decode m_Ch_remainder.2.1 64 = .ok (.aload_n 1, 1) := by decide +kernel
theorem d_Ch_remainder_65 : decode m_Ch_remainder.2.1 65 = .ok (.iload 5, 2) := by decide +kernel
theorem d_Ch_remainder_67 : decode m_Ch_remainder.2.1 67 = .ok (.iaload, 1) := by decide +kernel
theorem d_Ch_remainder_68 : decode m_Ch_remainder.2.1 68 = .ok (.istore_n 3, 1) := by decide +kernel
theorem d_Ch_remainder_69 : decode m_Ch_remainder.2.1 69 = .ok (.iinc 5 1, 3) := by decide +kernel
theorem d_Ch_remainder_72 : decode m_Ch_remainder.2.1 72 = .ok (.goto (-56), 3) := by decide +kernel
theorem d_Ch_remainder_75 : decode m_Ch_remainder.2.1 75 = .ok (.iload_n 3, 1) := by decide +kernel
theorem d_Ch_remainder_76 : decode m_Ch_remainder.2.1 76 = .ok (.ireturn, 1) := by decide +kernel
theorem d_Cl_hasNearRoom_0 : decode m_Cl_hasNearRoom.2.1 0 = .ok (.aload_n 0, 1) := by decide +kernel
theorem d_Cl_hasNearRoom_1 : decode m_Cl_hasNearRoom.2.1 1 = .ok (.getfield 22, 3) := by decide +kernel
theorem d_Cl_hasNearRoom_4 : decode m_Cl_hasNearRoom.2.1 4 = .ok (.iconst 3, 1) := by decide +kernel
theorem d_Cl_hasNearRoom_5 : decode m_Cl_hasNearRoom.2.1 5 = .ok (.iadd, 1) := by decide +kernel
theorem d_Cl_hasNearRoom_6 : decode m_Cl_hasNearRoom.2.1 6 = .ok (.sipush 10240, 3) := by decide +kernel
theorem d_Cl_hasNearRoom_9 : decode m_Cl_hasNearRoom.2.1 9 = .ok (.iadd, 1) := by decide +kernel
theorem d_Cl_hasNearRoom_10 : decode m_Cl_hasNearRoom.2.1 10 = .ok (.ldc 32, 2) := by decide +kernel
theorem d_Cl_hasNearRoom_12 : decode m_Cl_hasNearRoom.2.1 12 = .ok (.iadd, 1) := by decide +kernel
theorem d_Cl_hasNearRoom_13 : decode m_Cl_hasNearRoom.2.1 13 = .ok (.ldc 9, 2) := by decide +kernel
theorem d_Cl_hasNearRoom_15 : decode m_Cl_hasNearRoom.2.1 15 = .ok (.if_icmp .ge 7, 3) := by decide +kernel
theorem d_Cl_hasNearRoom_18 : decode m_Cl_hasNearRoom.2.1 18 = .ok (.iconst 1, 1) := by decide +kernel
theorem d_Cl_hasNearRoom_19 : decode m_Cl_hasNearRoom.2.1 19 = .ok (.goto 4, 3) := by decide +kernel
theorem d_Cl_hasNearRoom_22 : decode m_Cl_hasNearRoom.2.1 22 = .ok (.iconst 0, 1) := by decide +kernel
theorem d_Cl_hasNearRoom_23 : decode m_Cl_hasNearRoom.2.1 23 = .ok (.ireturn, 1) := by decide +kernel
theorem d_Cl_allHold_0 : decode m_Cl_allHold.2.1 0 = .ok (.iconst 1, 1) := by decide +kernel
theorem d_Cl_allHold_1 : decode m_Cl_allHold.2.1 1 = .ok (.istore_n 2, 1) := by decide +kernel
theorem d_Cl_allHold_2 : decode m_Cl_allHold.2.1 2 = .ok (.iload_n 2, 1) := by decide +kernel
theorem d_Cl_allHold_3 : decode m_Cl_allHold.2.1 3 = .ok (.aload_n 0, 1) := by decide +kernel
theorem d_Cl_allHold_4 : decode m_Cl_allHold.2.1 4 = .ok (.getfield 22, 3) := by decide +kernel
theorem d_Cl_allHold_7 : decode m_Cl_allHold.2.1 7 = .ok (.if_icmp .ge 57, 3) := by decide +kernel
theorem d_Cl_allHold_10 : decode m_Cl_allHold.2.1 10 = .ok (.iload_n 2, 1) := by decide +kernel
theorem d_Cl_allHold_11 : decode m_Cl_allHold.2.1 11 = .ok (.iconst 3, 1) := by decide +kernel
theorem d_Cl_allHold_12 : decode m_Cl_allHold.2.1 12 = .ok (.iadd, 1) := by decide +kernel
theorem d_Cl_allHold_13 : decode m_Cl_allHold.2.1 13 = .ok (.aload_n 0, 1) := by decide +kernel
theorem d_Cl_allHold_14 : decode m_Cl_allHold.2.1 14 = .ok (.getfield 10, 3) := by decide +kernel
theorem d_Cl_allHold_17 : decode m_Cl_allHold.2.1 17 = .ok (.iload_n 2, 1) := by decide +kernel
theorem d_Cl_allHold_18 : decode m_Cl_allHold.2.1 18 = .ok (.iaload, 1) := by decide +kernel
theorem d_Cl_allHold_19 : decode m_Cl_allHold.2.1 19 = .ok (.iadd, 1) := by decide +kernel
theorem d_Cl_allHold_20 : decode m_Cl_allHold.2.1 20 = .ok (.istore_n 3, 1) := by decide +kernel
theorem d_Cl_allHold_21 : decode m_Cl_allHold.2.1 21 = .ok (.iload_n 2, 1) := by decide +kernel
theorem d_Cl_allHold_22 : decode m_Cl_allHold.2.1 22 = .ok (.iconst 3, 1) := by decide +kernel
theorem d_Cl_allHold_23 : decode m_Cl_allHold.2.1 23 = .ok (.iadd, 1) := by decide +kernel
theorem d_Cl_allHold_24 : decode m_Cl_allHold.2.1 24 = .ok (.istore 4, 2) := by decide +kernel
theorem d_Cl_allHold_26 : decode m_Cl_allHold.2.1 26 = .ok (.iload 4, 2) := by decide +kernel
theorem d_Cl_allHold_28 : decode m_Cl_allHold.2.1 28 = .ok (.iload_n 3, 1) := by decide +kernel
theorem d_Cl_allHold_29 : decode m_Cl_allHold.2.1 29 = .ok (.if_icmp .ge 22, 3) := by decide +kernel
theorem d_Cl_allHold_32 : decode m_Cl_allHold.2.1 32 = .ok (.aload_n 1, 1) := by decide +kernel
theorem d_Cl_allHold_33 : decode m_Cl_allHold.2.1 33 = .ok (.aload_n 0, 1) := by decide +kernel
theorem d_Cl_allHold_34 : decode m_Cl_allHold.2.1 34 = .ok (.getfield 10, 3) := by decide +kernel
theorem d_Cl_allHold_37 : decode m_Cl_allHold.2.1 37 = .ok (.iload 4, 2) := by decide +kernel
theorem d_Cl_allHold_39 : decode m_Cl_allHold.2.1 39 = .ok (.iaload, 1) := by decide +kernel
theorem d_Cl_allHold_40 : decode m_Cl_allHold.2.1 40 = .ok (.iaload, 1) := by decide +kernel
theorem d_Cl_allHold_41 : decode m_Cl_allHold.2.1 41 = .ok (.iconst 1, 1) := by decide +kernel
theorem d_Cl_allHold_42 : decode m_Cl_allHold.2.1 42 = .ok (.if_icmp .eq 9, 3) := by decide +kernel
theorem d_Cl_allHold_45 : decode m_Cl_allHold.2.1 45 = .ok (.iinc 4 1, 3) := by decide +kernel
theorem d_Cl_allHold_48 : decode m_Cl_allHold.2.1 48 = .ok (.goto (-22), 3) := by decide +kernel
theorem d_Cl_allHold_51 : decode m_Cl_allHold.2.1 51 = .ok (.iload 4, 2) := by decide +kernel
theorem d_Cl_allHold_53 : decode m_Cl_allHold.2.1 53 = .ok (.iload_n 3, 1) := by decide +kernel
theorem d_Cl_allHold_54 : decode m_Cl_allHold.2.1 54 = .ok (.if_icmp .ne 5, 3) := by decide +kernel
theorem d_Cl_allHold_57 : decode m_Cl_allHold.2.1 57 = .ok (.iconst 0, 1) := by decide +kernel
theorem d_Cl_allHold_58 : decode m_Cl_allHold.2.1 58 = .ok (.ireturn, 1) := by decide +kernel
theorem d_Cl_allHold_59 : decode m_Cl_allHold.2.1 59 = .ok (.iload_n 3, 1) := by decide +kernel
theorem d_Cl_allHold_60 : decode m_Cl_allHold.2.1 60 = .ok (.istore_n 2, 1) := by decide +kernel
theorem d_Cl_allHold_61 : decode m_Cl_allHold.2.1 61 = .ok (.goto (-59), 3) := by decide +kernel
theorem d_Cl_allHold_64 : decode m_Cl_allHold.2.1 64 = .ok (.iconst 1, 1) := by decide +kernel
theorem d_Cl_allHold_65 : decode m_Cl_allHold.2.1 65 = .ok (.ireturn, 1) := by decide +kernel
theorem g_Cl_22 (nm : String) : q_G "ProofHall$Clauses" 22 9 3 "I" nm := ⟨_, _, _, rfl, by decide, rfl, List.mem_of_getElem? (i := 487) (by decide +kernel), Or.inl rfl⟩
theorem f_Cl_16 : q_FR "ProofHall$Clauses" 16 9 1 := ⟨"[I", by decide, ⟨_, _, _, rfl, by decide, rfl, Or.inl (List.mem_of_getElem? (i := 484) (by decide +kernel))⟩⟩
theorem cd_H_wipe : q_cd m_H_wipe := ⟨by decide +kernel, List.mem_of_getElem? (i := 1) (by decide +kernel), Or.inl ⟨rfl, List.mem_of_getElem? (i := 1209) (by decide +kernel)⟩⟩
theorem cS_Cl_26 : q_CS "ProofHall$Clauses" 26 m_H_wipe 2 := ⟨⟨cd_H_wipe, by decide, by decide, by decide, by decide +kernel⟩, Or.inr ⟨"ProofHall", List.mem_of_getElem? (i := 1207) (by decide +kernel)⟩, List.mem_of_getElem? (i := 1208) (by decide +kernel)⟩
theorem f_Cl_19 : q_FR "ProofHall$Clauses" 19 9 2 := ⟨"[I", by decide, ⟨_, _, _, rfl, by decide, rfl, Or.inl (List.mem_of_getElem? (i := 486) (by decide +kernel))⟩⟩
theorem f_Cl_33 : q_F "ProofHall$Clauses" 33 5 7 "I" := ⟨_, _, _, rfl, by decide, rfl, Or.inl (List.mem_of_getElem? (i := 377) (by decide +kernel))⟩
theorem f_Cl_36 : q_FR "ProofHall$Clauses" 36 5 0 := ⟨"[I", by decide, ⟨_, _, _, rfl, by decide, rfl, Or.inl (List.mem_of_getElem? (i := 364) (by decide +kernel))⟩⟩
theorem f_Cl_39 : q_FR "ProofHall$Clauses" 39 5 1 := ⟨"[I", by decide, ⟨_, _, _, rfl, by decide, rfl, Or.inl (List.mem_of_getElem? (i := 366) (by decide +kernel))⟩⟩
theorem f_Cl_42 : q_FR "ProofHall$Clauses" 42 5 2 := ⟨"[I", by decide, ⟨_, _, _, rfl, by decide, rfl, Or.inl (List.mem_of_getElem? (i := 368) (by decide +kernel))⟩⟩
theorem f_Cl_45 : q_FR "ProofHall$Clauses" 45 5 3 := ⟨"[I", by decide, ⟨_, _, _, rfl, by decide, rfl, Or.inl (List.mem_of_getElem? (i := 370) (by decide +kernel))⟩⟩
theorem cd_Cl_writeGate : q_cd m_Cl_writeGate := ⟨by decide +kernel, List.mem_of_getElem? (i := 15) (by decide +kernel), Or.inl ⟨rfl, List.mem_of_getElem? (i := 1217) (by decide +kernel)⟩⟩
theorem cV_Cl_48 : q_CV "ProofHall$Clauses" 48 9 m_Cl_writeGate 5 := ⟨⟨cd_Cl_writeGate, by decide, by decide, by decide, by decide +kernel⟩, Or.inl (List.mem_of_getElem? (i := 1214) (by decide +kernel)), List.mem_of_getElem? (i := 1216) (by decide +kernel), _, _, _, rfl, by decide +kernel⟩
theorem cd_Cl_put : q_cd m_Cl_put := ⟨by decide +kernel, List.mem_of_getElem? (i := 15) (by decide +kernel), Or.inl ⟨rfl, List.mem_of_getElem? (i := 1221) (by decide +kernel)⟩⟩
theorem cV_Cl_52 : q_CV "ProofHall$Clauses" 52 9 m_Cl_put 3 := ⟨⟨cd_Cl_put, by decide, by decide, by decide, by decide +kernel⟩, Or.inl (List.mem_of_getElem? (i := 1218) (by decide +kernel)), List.mem_of_getElem? (i := 1220) (by decide +kernel), _, _, _, rfl, by decide +kernel⟩
theorem f_Cl_22 : q_F "ProofHall$Clauses" 22 9 3 "I" := ⟨_, _, _, rfl, by decide, rfl, Or.inl (List.mem_of_getElem? (i := 487) (by decide +kernel))⟩
theorem f_Cl_10 : q_FR "ProofHall$Clauses" 10 9 0 := ⟨"[I", by decide, ⟨_, _, _, rfl, by decide, rfl, Or.inl (List.mem_of_getElem? (i := 482) (by decide +kernel))⟩⟩
theorem f_Cl_56 : q_F "ProofHall$Clauses" 56 9 4 "I" := ⟨_, _, _, rfl, by decide, rfl, Or.inl (List.mem_of_getElem? (i := 489) (by decide +kernel))⟩
theorem g_Cl_56 (nm : String) : q_G "ProofHall$Clauses" 56 9 4 "I" nm := ⟨_, _, _, rfl, by decide, rfl, List.mem_of_getElem? (i := 489) (by decide +kernel), Or.inl rfl⟩
theorem cd_Cl_watch : q_cd m_Cl_watch := ⟨by decide +kernel, List.mem_of_getElem? (i := 15) (by decide +kernel), Or.inl ⟨rfl, List.mem_of_getElem? (i := 1225) (by decide +kernel)⟩⟩
theorem cV_Cl_59 : q_CV "ProofHall$Clauses" 59 9 m_Cl_watch 1 := ⟨⟨cd_Cl_watch, by decide, by decide, by decide, by decide +kernel⟩, Or.inl (List.mem_of_getElem? (i := 1222) (by decide +kernel)), List.mem_of_getElem? (i := 1224) (by decide +kernel), _, _, _, rfl, by decide +kernel⟩
theorem f_Ch_11 : q_FR "ProofHall$Checker" 11 10 0 := ⟨"[I", by decide, ⟨_, _, _, rfl, by decide, rfl, Or.inl (List.mem_of_getElem? (i := 507) (by decide +kernel))⟩⟩
theorem cS_Ch_20 : q_CS "ProofHall$Checker" 20 m_H_wipe 2 := ⟨⟨cd_H_wipe, by decide, by decide, by decide, by decide +kernel⟩, Or.inr ⟨"ProofHall", List.mem_of_getElem? (i := 1230) (by decide +kernel)⟩, List.mem_of_getElem? (i := 1208) (by decide +kernel)⟩
theorem cd_Ch_follows : q_cd m_Ch_follows := ⟨by decide +kernel, List.mem_of_getElem? (i := 16) (by decide +kernel), Or.inl ⟨rfl, List.mem_of_getElem? (i := 1296) (by decide +kernel)⟩⟩
theorem cV_Ch_24 : q_CV "ProofHall$Checker" 24 10 m_Ch_follows 5 := ⟨⟨cd_Ch_follows, by decide, by decide, by decide, by decide +kernel⟩, Or.inl (List.mem_of_getElem? (i := 1293) (by decide +kernel)), List.mem_of_getElem? (i := 1295) (by decide +kernel), _, _, _, rfl, by decide +kernel⟩
theorem f_Ch_28 : q_F "ProofHall$Checker" 28 10 3 "I" := ⟨_, _, _, rfl, by decide, rfl, Or.inl (List.mem_of_getElem? (i := 511) (by decide +kernel))⟩
theorem g_Ch_28 (nm : String) : q_G "ProofHall$Checker" 28 10 3 "I" nm := ⟨_, _, _, rfl, by decide, rfl, List.mem_of_getElem? (i := 511) (by decide +kernel), Or.inl rfl⟩
theorem f_Ch_32 : q_F "ProofHall$Checker" 32 10 2 "I" := ⟨_, _, _, rfl, by decide, rfl, Or.inl (List.mem_of_getElem? (i := 509) (by decide +kernel))⟩
theorem g_Ch_32 (nm : String) : q_G "ProofHall$Checker" 32 10 2 "I" nm := ⟨_, _, _, rfl, by decide, rfl, List.mem_of_getElem? (i := 509) (by decide +kernel), Or.inl rfl⟩
theorem f_Ch_17 : q_FR "ProofHall$Checker" 17 10 1 := ⟨"[I", by decide, ⟨_, _, _, rfl, by decide, rfl, Or.inl (List.mem_of_getElem? (i := 508) (by decide +kernel))⟩⟩
theorem cd_Ch_remainder : q_cd m_Ch_remainder := ⟨by decide +kernel, List.mem_of_getElem? (i := 16) (by decide +kernel), Or.inl ⟨rfl, List.mem_of_getElem? (i := 1300) (by decide +kernel)⟩⟩
theorem cV_Ch_35 : q_CV "ProofHall$Checker" 35 10 m_Ch_remainder 2 := ⟨⟨cd_Ch_remainder, by decide, by decide, by decide, by decide +kernel⟩, Or.inl (List.mem_of_getElem? (i := 1297) (by decide +kernel)), List.mem_of_getElem? (i := 1299) (by decide +kernel), _, _, _, rfl, by decide +kernel⟩
theorem k_Cl_32 : Cond.constant "ProofHall$Clauses" 32 90000 ∈ tables_1 := List.mem_of_getElem? (i := 1313) (by decide +kernel)
set_option maxHeartbeats 2000000 in
theorem b_Cl_clear_0 {ω : q_W} {σ : q_H} {Q : q_R → q_H → Prop} {d mc ms : Nat} {x1 : Int}  (hE : q_E σ) (h : (J ω m_H_wipe d 0 0 0 0 0 [(0, .ref 73), (1, .int (zI (2 * x1)))] [] (zs σ 71 3 1) (q_kv (fun τ => J ω m_Cl_clear (d + 1) mc ms 0 0 15 [] [] τ Q)))) : J ω m_Cl_clear (d + 1) mc ms 0 0 0 [(0, .ref 71), (1, .int (zI x1))] [] σ Q := by
  refine j_aload_n d_Cl_clear_0 0 rfl ?_
  refine j_iconst (v := zI 1) d_Cl_clear_1 (by decide) ?_
  refine zj_putI (g_Cl_22 _) d_Cl_clear_2 (tg_71 hE) (q_okE hE (by decide)) ?_
  refine j_aload_n d_Cl_clear_5 0 rfl ?_
  refine j_getR 73 f_Cl_16 d_Cl_clear_6 (tg_71 (zs_E hE)) (q_okE (zs_E hE) (by decide)) (rf_71_1 (zs_E hE)) (by decide) ?_
  refine j_iconst (v := zI 2) d_Cl_clear_9 (by decide) ?_
  refine j_iload_n d_Cl_clear_10 1 rfl ?_
  refine zj_imul (2 * x1) rfl d_Cl_clear_11 ?_
  refine j_callS m_H_wipe [.ref 73, .int (zI (2 * x1))] [] d 0 0 cS_Cl_26 d_Cl_clear_12 rfl rfl (Nat.le_of_ble_eq_true rfl) (Nat.le_refl _) (Nat.le_of_ble_eq_true rfl) (Nat.zero_le _) (Nat.zero_le _) h (fun v τ h => ?_) (fun x τ h => ?_)
  · obtain ⟨e1, h⟩ := h; cases e1; exact j_sel [] rfl h
  · obtain ⟨e1, h⟩ := h; cases e1
set_option maxHeartbeats 2000000 in
theorem b_Cl_clear_15 {ω : q_W} {σ : q_H} {Q : q_R → q_H → Prop} {d mc ms : Nat}   (hE : q_E σ) (h : (Q (.inl none) σ)) : J ω m_Cl_clear (d + 1) mc ms 0 0 15 [] [] σ Q := by
  exact j_vret d_Cl_clear_15 rfl (Nat.zero_le _) (Nat.zero_le _) h
set_option maxHeartbeats 2000000 in
theorem b_Cl_write_0 {ω : q_W} {σ : q_H} {Q : q_R → q_H → Prop} {d mc ms : Nat} {x3 : Int}  (hE : q_E σ) (h : (J ω m_H_wipe d 0 0 0 0 0 [(0, .ref 74), (1, .int (zI (z σ 50 7)))] [] σ (q_kv (fun τ => J ω m_Cl_write (d + 1) mc ms 0 0 11 [(0, .ref 71), (1, .ref 50), (2, .ref 92), (3, .int (zI x3))] [] τ Q)))) : J ω m_Cl_write (d + 1) mc ms 0 0 0 [(0, .ref 71), (1, .ref 50), (2, .ref 92), (3, .int (zI x3))] [] σ Q := by
  refine j_aload_n d_Cl_write_0 0 rfl ?_
  refine j_getR 74 f_Cl_19 d_Cl_write_1 (tg_71 hE) (q_okE hE (by decide)) (rf_71_2 hE) (by decide) ?_
  refine j_aload_n d_Cl_write_4 1 rfl ?_
  refine zj_getI (z σ 50 7) f_Cl_33 d_Cl_write_5 (tg_50 hE) (q_okE hE (by decide)) (q_z _ _ _) ?_
  refine j_callS m_H_wipe [.ref 74, .int (zI (z σ 50 7))] [] d 0 0 cS_Cl_26 d_Cl_write_8 rfl rfl (Nat.le_of_ble_eq_true rfl) (Nat.le_refl _) (Nat.le_of_ble_eq_true rfl) (Nat.zero_le _) (Nat.zero_le _) h (fun v τ h => ?_) (fun x τ h => ?_)
  · obtain ⟨e1, h⟩ := h; cases e1; exact j_sel [0, 1, 2, 3] rfl h
  · obtain ⟨e1, h⟩ := h; cases e1
set_option maxHeartbeats 2000000 in
theorem b_Cl_write_11 {ω : q_W} {σ : q_H} {Q : q_R → q_H → Prop} {d mc ms : Nat} {x3 : Int}  (hE : q_E σ) (h : (J ω m_Cl_write (d + 1) mc ms 0 0 14 [(0, .ref 71), (1, .ref 50), (2, .ref 92), (3, .int (zI x3)), (4, .int (zI 0))] [] σ Q)) : J ω m_Cl_write (d + 1) mc ms 0 0 11 [(0, .ref 71), (1, .ref 50), (2, .ref 92), (3, .int (zI x3))] [] σ Q := by
  refine j_iconst (v := zI 0) d_Cl_write_11 (by decide) ?_
  refine j_istore (L' := [(4, .int (zI 0)), (0, .ref 71), (1, .ref 50), (2, .ref 92), (3, .int (zI x3))]) d_Cl_write_12 (by decide) rfl ?_
  exact j_sel [1, 2, 3, 4, 0] rfl h
set_option maxHeartbeats 2000000 in
theorem b_Cl_write_14 {ω : q_W} {σ : q_H} {Q : q_R → q_H → Prop} {d mc ms : Nat} {x3 : Int} {x4 : Int}  (hE : q_E σ) (h : inR x4 ∧ inR x3 ∧ q_imp (x4 ≥ x3) ((J ω m_Cl_write (d + 1) mc ms 0 0 46 [(0, .ref 71), (1, .ref 50), (4, .int (zI ((z σ 50 7) - 1)))] [] σ Q)) ∧ q_imp (x4 < x3) ((0 ≤ x4 ∧ x4 < 16) ∧ (0 ≤ (zShr (z σ 92 x4.toNat) 1) ∧ (zShr (z σ 92 x4.toNat) 1) < 10240) ∧ (J ω m_Cl_write (d + 1) mc ms 0 0 14 [(0, .ref 71), (1, .ref 50), (2, .ref 92), (3, .int (zI x3)), (4, .int (zI (x4 + 1)))] [] (zs σ 74 (zShr (z σ 92 x4.toNat) 1).toNat 1) Q))) : J ω m_Cl_write (d + 1) mc ms 0 0 14 [(0, .ref 71), (1, .ref 50), (2, .ref 92), (3, .int (zI x3)), (4, .int (zI x4))] [] σ Q := by
  refine j_iload d_Cl_write_14 4 rfl ?_
  refine j_iload_n d_Cl_write_16 3 rfl ?_
  obtain ⟨r1, h⟩ := h
  obtain ⟨r2, h⟩ := h
  obtain ⟨h1, h2⟩ := h
  refine zj_icmp_ge 38 d_Cl_write_17 (by decide) r1 r2 (fun k3 => ?_) (fun k3 => ?_)
  · have h := h1 k3
    refine j_aload_n d_Cl_write_38 1 rfl ?_
    refine zj_getI (z σ 50 7) f_Cl_33 d_Cl_write_39 (tg_50 hE) (q_okE hE (by decide)) (q_z _ _ _) ?_
    refine j_iconst (v := zI 1) d_Cl_write_42 (by decide) ?_
    refine zj_isub ((z σ 50 7) - 1) (by omega) d_Cl_write_43 ?_
    refine j_istore (L' := [(4, .int (zI ((z σ 50 7) - 1))), (0, .ref 71), (1, .ref 50), (2, .ref 92), (3, .int (zI x3))]) d_Cl_write_44 (by decide) rfl ?_
    exact j_sel [1, 2, 0] rfl h
  · have h := h2 k3
    refine j_aload_n d_Cl_write_20 0 rfl ?_
    refine j_getR 74 f_Cl_19 d_Cl_write_21 (tg_71 hE) (q_okE hE (by decide)) (rf_71_2 hE) (by decide) ?_
    refine j_aload_n d_Cl_write_24 2 rfl ?_
    refine j_iload d_Cl_write_25 4 rfl ?_
    obtain ⟨c4, h⟩ := h
    refine zj_iald (z σ 92 x4.toNat) d_Cl_write_27 (tg_92 hE) (q_okE hE (by decide)) c4 (by decide) (q_z _ _ _) ?_
    refine j_iconst (v := zI 1) d_Cl_write_28 (by decide) ?_
    refine zj_ishr d_Cl_write_29 ?_
    refine j_iconst (v := zI 1) d_Cl_write_30 (by decide) ?_
    obtain ⟨c5, h⟩ := h
    refine zj_iast d_Cl_write_31 (tg_74 hE) (q_okE hE (by decide)) c5 (by decide) ?_
    refine zj_iinc (L' := [(4, .int (zI (x4 + 1))), (0, .ref 71), (1, .ref 50), (2, .ref 92), (3, .int (zI x3))]) (x4 + 1) d_Cl_write_32 4 rfl (by omega) (by decide) rfl ?_
    refine j_goto 14 d_Cl_write_35 (by decide) ?_
    exact j_sel [1, 2, 3, 4, 0] rfl h
set_option maxHeartbeats 2000000 in
theorem b_Cl_write_46 {ω : q_W} {σ : q_H} {Q : q_R → q_H → Prop} {d mc ms : Nat} {x4 : Int}  (hE : q_E σ) (h : inR x4 ∧ q_imp (x4 ≤ 0) ((J ω m_Cl_write (d + 1) mc ms 0 0 126 [(0, .ref 71), (1, .ref 50), (4, .int (zI 1))] [] σ Q)) ∧ q_imp (0 < x4) ((0 ≤ x4 ∧ x4 < 10240) ∧ q_imp ((z σ 74 x4.toNat) ≠ 1) ((J ω m_Cl_write (d + 1) mc ms 0 0 46 [(0, .ref 71), (1, .ref 50), (4, .int (zI (x4 - 1)))] [] σ Q)) ∧ q_imp ((z σ 74 x4.toNat) = 1) (q_imp ((z σ 51 x4.toNat) = 0) ((J ω m_Cl_write (d + 1) mc ms 0 0 46 [(0, .ref 71), (1, .ref 50), (4, .int (zI (x4 - 1)))] [] σ Q)) ∧ q_imp ((z σ 51 x4.toNat) ≠ 0) ((0 ≤ (zShr (z σ 52 x4.toNat) 1) ∧ (zShr (z σ 52 x4.toNat) 1) < 10240) ∧ (0 ≤ (zShr (z σ 53 x4.toNat) 1) ∧ (zShr (z σ 53 x4.toNat) 1) < 10240) ∧ (0 ≤ (zShr (z σ 54 x4.toNat) 1) ∧ (zShr (z σ 54 x4.toNat) 1) < 10240) ∧ (J ω m_Cl_write (d + 1) mc ms 0 0 46 [(0, .ref 71), (1, .ref 50), (4, .int (zI (x4 - 1)))] [] (zs (zs (zs σ 74 (zShr (z σ 52 x4.toNat) 1).toNat 1) 74 (zShr (z σ 53 x4.toNat) 1).toNat 1) 74 (zShr (z σ 54 x4.toNat) 1).toNat 1) Q))))) : J ω m_Cl_write (d + 1) mc ms 0 0 46 [(0, .ref 71), (1, .ref 50), (4, .int (zI x4))] [] σ Q := by
  refine j_iload d_Cl_write_46 2 rfl ?_
  obtain ⟨r6, h⟩ := h
  obtain ⟨h1, h2⟩ := h
  refine zj_if_le 123 d_Cl_write_48 (by decide) r6 (fun k7 => ?_) (fun k7 => ?_)
  · have h := h1 k7
    refine j_iconst (v := zI 1) d_Cl_write_123 (by decide) ?_
    refine j_istore (L' := [(4, .int (zI 1)), (0, .ref 71), (1, .ref 50)]) d_Cl_write_124 (by decide) rfl ?_
    exact j_sel [1, 2, 0] rfl h
  · have h := h2 k7
    refine j_aload_n d_Cl_write_51 0 rfl ?_
    refine j_getR 74 f_Cl_19 d_Cl_write_52 (tg_71 hE) (q_okE hE (by decide)) (rf_71_2 hE) (by decide) ?_
    refine j_iload d_Cl_write_55 2 rfl ?_
    obtain ⟨c8, h⟩ := h
    refine zj_iald (z σ 74 x4.toNat) d_Cl_write_57 (tg_74 hE) (q_okE hE (by decide)) c8 (by decide) (q_z _ _ _) ?_
    refine j_iconst (v := zI 1) d_Cl_write_58 (by decide) ?_
    obtain ⟨h1, h2⟩ := h
    refine zj_icmp_ne 117 d_Cl_write_59 (by decide) (z_R _ _ _) ⟨by decide, by decide⟩ (fun k9 => ?_) (fun k9 => ?_)
    · have h := h1 k9
      refine zj_iinc (L' := [(4, .int (zI (x4 - 1))), (0, .ref 71), (1, .ref 50)]) (x4 - 1) d_Cl_write_117 2 rfl (by omega) (by decide) rfl ?_
      refine j_goto 46 d_Cl_write_120 (by decide) ?_
      exact j_sel [1, 2, 0] rfl h
    · have h := h2 k9
      refine j_aload_n d_Cl_write_62 1 rfl ?_
      refine j_getR 51 f_Cl_36 d_Cl_write_63 (tg_50 hE) (q_okE hE (by decide)) (rf_50_0 hE) (by decide) ?_
      refine j_iload d_Cl_write_66 2 rfl ?_
      refine zj_iald (z σ 51 x4.toNat) d_Cl_write_68 (tg_51 hE) (q_okE hE (by decide)) c8 (by decide) (q_z _ _ _) ?_
      obtain ⟨h1, h2⟩ := h
      refine zj_if_eq 117 d_Cl_write_69 (by decide) (z_R _ _ _) (fun k10 => ?_) (fun k10 => ?_)
      · have h := h1 k10
        refine zj_iinc (L' := [(4, .int (zI (x4 - 1))), (0, .ref 71), (1, .ref 50)]) (x4 - 1) d_Cl_write_117 2 rfl (by omega) (by decide) rfl ?_
        refine j_goto 46 d_Cl_write_120 (by decide) ?_
        exact j_sel [1, 2, 0] rfl h
      · have h := h2 k10
        refine j_aload_n d_Cl_write_72 0 rfl ?_
        refine j_getR 74 f_Cl_19 d_Cl_write_73 (tg_71 hE) (q_okE hE (by decide)) (rf_71_2 hE) (by decide) ?_
        refine j_aload_n d_Cl_write_76 1 rfl ?_
        refine j_getR 52 f_Cl_39 d_Cl_write_77 (tg_50 hE) (q_okE hE (by decide)) (rf_50_1 hE) (by decide) ?_
        refine j_iload d_Cl_write_80 2 rfl ?_
        refine zj_iald (z σ 52 x4.toNat) d_Cl_write_82 (tg_52 hE) (q_okE hE (by decide)) c8 (by decide) (q_z _ _ _) ?_
        refine j_iconst (v := zI 1) d_Cl_write_83 (by decide) ?_
        refine zj_ishr d_Cl_write_84 ?_
        refine j_iconst (v := zI 1) d_Cl_write_85 (by decide) ?_
        obtain ⟨c11, h⟩ := h
        refine zj_iast d_Cl_write_86 (tg_74 hE) (q_okE hE (by decide)) c11 (by decide) ?_
        refine j_aload_n d_Cl_write_87 0 rfl ?_
        refine j_getR 74 f_Cl_19 d_Cl_write_88 (tg_71 (zs_E hE)) (q_okE (zs_E hE) (by decide)) (rf_71_2 (zs_E hE)) (by decide) ?_
        refine j_aload_n d_Cl_write_91 1 rfl ?_
        refine j_getR 53 f_Cl_42 d_Cl_write_92 (tg_50 (zs_E hE)) (q_okE (zs_E hE) (by decide)) (rf_50_2 (zs_E hE)) (by decide) ?_
        refine j_iload d_Cl_write_95 2 rfl ?_
        refine zj_iald (z σ 53 x4.toNat) d_Cl_write_97 (tg_53 (zs_E hE)) (q_okE (zs_E hE) (by decide)) c8 (by decide) (Eq.trans (qs_o (by decide)) (q_z _ _ _)) ?_
        refine j_iconst (v := zI 1) d_Cl_write_98 (by decide) ?_
        refine zj_ishr d_Cl_write_99 ?_
        refine j_iconst (v := zI 1) d_Cl_write_100 (by decide) ?_
        obtain ⟨c12, h⟩ := h
        refine zj_iast d_Cl_write_101 (tg_74 (zs_E hE)) (q_okE (zs_E hE) (by decide)) c12 (by decide) ?_
        refine j_aload_n d_Cl_write_102 0 rfl ?_
        refine j_getR 74 f_Cl_19 d_Cl_write_103 (tg_71 (zs_E (zs_E hE))) (q_okE (zs_E (zs_E hE)) (by decide)) (rf_71_2 (zs_E (zs_E hE))) (by decide) ?_
        refine j_aload_n d_Cl_write_106 1 rfl ?_
        refine j_getR 54 f_Cl_45 d_Cl_write_107 (tg_50 (zs_E (zs_E hE))) (q_okE (zs_E (zs_E hE)) (by decide)) (rf_50_3 (zs_E (zs_E hE))) (by decide) ?_
        refine j_iload d_Cl_write_110 2 rfl ?_
        refine zj_iald (z σ 54 x4.toNat) d_Cl_write_112 (tg_54 (zs_E (zs_E hE))) (q_okE (zs_E (zs_E hE)) (by decide)) c8 (by decide) (Eq.trans (qs_o (by decide)) (Eq.trans (qs_o (by decide)) (q_z _ _ _))) ?_
        refine j_iconst (v := zI 1) d_Cl_write_113 (by decide) ?_
        refine zj_ishr d_Cl_write_114 ?_
        refine j_iconst (v := zI 1) d_Cl_write_115 (by decide) ?_
        obtain ⟨c13, h⟩ := h
        refine zj_iast d_Cl_write_116 (tg_74 (zs_E (zs_E hE))) (q_okE (zs_E (zs_E hE)) (by decide)) c13 (by decide) ?_
        refine zj_iinc (L' := [(4, .int (zI (x4 - 1))), (0, .ref 71), (1, .ref 50)]) (x4 - 1) d_Cl_write_117 2 rfl (by omega) (by decide) rfl ?_
        refine j_goto 46 d_Cl_write_120 (by decide) ?_
        exact j_sel [1, 2, 0] rfl h
set_option maxHeartbeats 2000000 in
theorem b_Cl_write_126 {ω : q_W} {σ : q_H} {Q : q_R → q_H → Prop} {d mc ms : Nat} {x4 : Int}  (hE : q_E σ) (h : inR x4 ∧ q_imp (x4 ≥ (z σ 50 7)) ((Q (.inl none) σ)) ∧ q_imp (x4 < (z σ 50 7)) ((0 ≤ x4 ∧ x4 < 10240) ∧ q_imp ((z σ 74 x4.toNat) ≠ 1) ((J ω m_Cl_write (d + 1) mc ms 0 0 126 [(0, .ref 71), (1, .ref 50), (4, .int (zI (x4 + 1)))] [] σ Q)) ∧ q_imp ((z σ 74 x4.toNat) = 1) ((J ω m_Cl_writeGate d 0 0 0 0 0 [(0, .ref 71), (1, .int (zI (z σ 51 x4.toNat))), (2, .int (zI (2 * x4))), (3, .int (zI (z σ 52 x4.toNat))), (4, .int (zI (z σ 53 x4.toNat))), (5, .int (zI (z σ 54 x4.toNat)))] [] σ (q_kv (fun τ => J ω m_Cl_write (d + 1) mc ms 0 0 182 [(0, .ref 71), (1, .ref 50), (4, .int (zI x4))] [] τ Q)))))) : J ω m_Cl_write (d + 1) mc ms 0 0 126 [(0, .ref 71), (1, .ref 50), (4, .int (zI x4))] [] σ Q := by
  refine j_iload d_Cl_write_126 2 rfl ?_
  refine j_aload_n d_Cl_write_128 1 rfl ?_
  refine zj_getI (z σ 50 7) f_Cl_33 d_Cl_write_129 (tg_50 hE) (q_okE hE (by decide)) (q_z _ _ _) ?_
  obtain ⟨r14, h⟩ := h
  obtain ⟨h1, h2⟩ := h
  refine zj_icmp_ge 188 d_Cl_write_132 (by decide) r14 (z_R _ _ _) (fun k15 => ?_) (fun k15 => ?_)
  · have h := h1 k15
    exact j_vret d_Cl_write_188 rfl (Nat.zero_le _) (Nat.zero_le _) h
  · have h := h2 k15
    refine j_aload_n d_Cl_write_135 0 rfl ?_
    refine j_getR 74 f_Cl_19 d_Cl_write_136 (tg_71 hE) (q_okE hE (by decide)) (rf_71_2 hE) (by decide) ?_
    refine j_iload d_Cl_write_139 2 rfl ?_
    obtain ⟨c16, h⟩ := h
    refine zj_iald (z σ 74 x4.toNat) d_Cl_write_141 (tg_74 hE) (q_okE hE (by decide)) c16 (by decide) (q_z _ _ _) ?_
    refine j_iconst (v := zI 1) d_Cl_write_142 (by decide) ?_
    obtain ⟨h1, h2⟩ := h
    refine zj_icmp_ne 182 d_Cl_write_143 (by decide) (z_R _ _ _) ⟨by decide, by decide⟩ (fun k17 => ?_) (fun k17 => ?_)
    · have h := h1 k17
      refine zj_iinc (L' := [(4, .int (zI (x4 + 1))), (0, .ref 71), (1, .ref 50)]) (x4 + 1) d_Cl_write_182 2 rfl (by omega) (by decide) rfl ?_
      refine j_goto 126 d_Cl_write_185 (by decide) ?_
      exact j_sel [1, 2, 0] rfl h
    · have h := h2 k17
      refine j_aload_n d_Cl_write_146 0 rfl ?_
      refine j_aload_n d_Cl_write_147 1 rfl ?_
      refine j_getR 51 f_Cl_36 d_Cl_write_148 (tg_50 hE) (q_okE hE (by decide)) (rf_50_0 hE) (by decide) ?_
      refine j_iload d_Cl_write_151 2 rfl ?_
      refine zj_iald (z σ 51 x4.toNat) d_Cl_write_153 (tg_51 hE) (q_okE hE (by decide)) c16 (by decide) (q_z _ _ _) ?_
      refine j_iconst (v := zI 2) d_Cl_write_154 (by decide) ?_
      refine j_iload d_Cl_write_155 2 rfl ?_
      refine zj_imul (2 * x4) rfl d_Cl_write_157 ?_
      refine j_aload_n d_Cl_write_158 1 rfl ?_
      refine j_getR 52 f_Cl_39 d_Cl_write_159 (tg_50 hE) (q_okE hE (by decide)) (rf_50_1 hE) (by decide) ?_
      refine j_iload d_Cl_write_162 2 rfl ?_
      refine zj_iald (z σ 52 x4.toNat) d_Cl_write_164 (tg_52 hE) (q_okE hE (by decide)) c16 (by decide) (q_z _ _ _) ?_
      refine j_aload_n d_Cl_write_165 1 rfl ?_
      refine j_getR 53 f_Cl_42 d_Cl_write_166 (tg_50 hE) (q_okE hE (by decide)) (rf_50_2 hE) (by decide) ?_
      refine j_iload d_Cl_write_169 2 rfl ?_
      refine zj_iald (z σ 53 x4.toNat) d_Cl_write_171 (tg_53 hE) (q_okE hE (by decide)) c16 (by decide) (q_z _ _ _) ?_
      refine j_aload_n d_Cl_write_172 1 rfl ?_
      refine j_getR 54 f_Cl_45 d_Cl_write_173 (tg_50 hE) (q_okE hE (by decide)) (rf_50_3 hE) (by decide) ?_
      refine j_iload d_Cl_write_176 2 rfl ?_
      refine zj_iald (z σ 54 x4.toNat) d_Cl_write_178 (tg_54 hE) (q_okE hE (by decide)) c16 (by decide) (q_z _ _ _) ?_
      refine j_callV m_Cl_writeGate [.int (zI (z σ 51 x4.toNat)), .int (zI (2 * x4)), .int (zI (z σ 52 x4.toNat)), .int (zI (z σ 53 x4.toNat)), .int (zI (z σ 54 x4.toNat))] [] d 0 0 cV_Cl_48 d_Cl_write_179 rfl rfl (tg_71 hE) (q_okE hE (by decide)) (Nat.le_of_ble_eq_true rfl) (Nat.le_refl _) (Nat.le_of_ble_eq_true rfl) (Nat.zero_le _) (Nat.zero_le _) h (fun v τ h => ?_) (fun x τ h => ?_)
      · obtain ⟨e1, h⟩ := h; cases e1; exact j_sel [0, 1, 2] rfl h
      · obtain ⟨e1, h⟩ := h; cases e1
set_option maxHeartbeats 2000000 in
theorem b_Cl_write_182 {ω : q_W} {σ : q_H} {Q : q_R → q_H → Prop} {d mc ms : Nat} {x4 : Int}  (hE : q_E σ) (h : (J ω m_Cl_write (d + 1) mc ms 0 0 126 [(0, .ref 71), (1, .ref 50), (4, .int (zI (x4 + 1)))] [] σ Q)) : J ω m_Cl_write (d + 1) mc ms 0 0 182 [(0, .ref 71), (1, .ref 50), (4, .int (zI x4))] [] σ Q := by
  refine zj_iinc (L' := [(4, .int (zI (x4 + 1))), (0, .ref 71), (1, .ref 50)]) (x4 + 1) d_Cl_write_182 2 rfl (by omega) (by decide) rfl ?_
  refine j_goto 126 d_Cl_write_185 (by decide) ?_
  exact j_sel [1, 2, 0] rfl h
theorem o_Cl_writeGate_1 {x : Int} (cs1 : ¬ x = 1) (cs2 : ¬ x = 2) (cs3 : ¬ x = 3) : x < 1 ∨ 3 < x := by omega
set_option maxHeartbeats 2000000 in
theorem b_Cl_writeGate_0 {ω : q_W} {σ : q_H} {Q : q_R → q_H → Prop} {d mc ms : Nat} {x1 : Int} {x2 : Int} {x3 : Int} {x4 : Int} {x5 : Int}  (hE : q_E σ) (h : inR x1 ∧ q_imp (x1 = 1) ((J ω m_Cl_put d 0 0 0 0 0 [(0, .ref 71), (1, .int (zI (zXor x2 1))), (2, .int (zI x3)), (3, .int (zI 0))] [] σ (q_kv (fun τ => J ω m_Cl_writeGate (d + 1) mc ms 0 0 37 [(0, .ref 71), (2, .int (zI x2)), (3, .int (zI x3)), (4, .int (zI x4))] [] τ Q)))) ∧ q_imp (x1 = 2) ((J ω m_Cl_put d 0 0 0 0 0 [(0, .ref 71), (1, .int (zI (zXor x2 1))), (2, .int (zI x3)), (3, .int (zI x4))] [] σ (q_kv (fun τ => J ω m_Cl_writeGate (d + 1) mc ms 0 0 72 [(0, .ref 71), (2, .int (zI x2)), (3, .int (zI x3)), (4, .int (zI x4))] [] τ Q)))) ∧ q_imp (x1 = 3) ((J ω m_Cl_put d 0 0 0 0 0 [(0, .ref 71), (1, .int (zI x2)), (2, .int (zI (zXor x3 1))), (3, .int (zI (zXor x4 1)))] [] σ (q_kv (fun τ => J ω m_Cl_writeGate (d + 1) mc ms 0 0 121 [(0, .ref 71), (2, .int (zI x2)), (3, .int (zI x3)), (4, .int (zI x4)), (5, .int (zI x5))] [] τ Q)))) ∧ q_imp (x1 ≠ 1 ∧ x1 ≠ 2 ∧ x1 ≠ 3) ((Q (.inl none) σ))) : J ω m_Cl_writeGate (d + 1) mc ms 0 0 0 [(0, .ref 71), (1, .int (zI x1)), (2, .int (zI x2)), (3, .int (zI x3)), (4, .int (zI x4)), (5, .int (zI x5))] [] σ Q := by
  refine j_iload_n d_Cl_writeGate_0 1 rfl ?_
  obtain ⟨r1, h⟩ := h
  obtain ⟨g28, g62, g109, gD⟩ := h
  have jg28 : q_imp (x1 = 1) (J ω m_Cl_writeGate (d + 1) mc ms 0 0 28 [(0, .ref 71), (1, .int (zI x1)), (2, .int (zI x2)), (3, .int (zI x3)), (4, .int (zI x4)), (5, .int (zI x5))] [] σ Q) := by
    intro c
    have h := g28 c
    refine j_aload_n d_Cl_writeGate_28 0 rfl ?_
    refine j_iload_n d_Cl_writeGate_29 2 rfl ?_
    refine j_iconst (v := zI 1) d_Cl_writeGate_30 (by decide) ?_
    refine zj_ixor d_Cl_writeGate_31 ?_
    refine j_iload_n d_Cl_writeGate_32 3 rfl ?_
    refine j_iconst (v := zI 0) d_Cl_writeGate_33 (by decide) ?_
    refine j_callV m_Cl_put [.int (zI (zXor x2 1)), .int (zI x3), .int (zI 0)] [] d 0 0 cV_Cl_52 d_Cl_writeGate_34 rfl rfl (tg_71 hE) (q_okE hE (by decide)) (Nat.le_of_ble_eq_true rfl) (Nat.le_refl _) (Nat.le_of_ble_eq_true rfl) (Nat.zero_le _) (Nat.zero_le _) h (fun v τ h => ?_) (fun x τ h => ?_)
    · obtain ⟨e1, h⟩ := h; cases e1; exact j_sel [0, 2, 3, 4] rfl h
    · obtain ⟨e1, h⟩ := h; cases e1
  have jg62 : q_imp (x1 = 2) (J ω m_Cl_writeGate (d + 1) mc ms 0 0 62 [(0, .ref 71), (1, .int (zI x1)), (2, .int (zI x2)), (3, .int (zI x3)), (4, .int (zI x4)), (5, .int (zI x5))] [] σ Q) := by
    intro c
    have h := g62 c
    refine j_aload_n d_Cl_writeGate_62 0 rfl ?_
    refine j_iload_n d_Cl_writeGate_63 2 rfl ?_
    refine j_iconst (v := zI 1) d_Cl_writeGate_64 (by decide) ?_
    refine zj_ixor d_Cl_writeGate_65 ?_
    refine j_iload_n d_Cl_writeGate_66 3 rfl ?_
    refine j_iload d_Cl_writeGate_67 4 rfl ?_
    refine j_callV m_Cl_put [.int (zI (zXor x2 1)), .int (zI x3), .int (zI x4)] [] d 0 0 cV_Cl_52 d_Cl_writeGate_69 rfl rfl (tg_71 hE) (q_okE hE (by decide)) (Nat.le_of_ble_eq_true rfl) (Nat.le_refl _) (Nat.le_of_ble_eq_true rfl) (Nat.zero_le _) (Nat.zero_le _) h (fun v τ h => ?_) (fun x τ h => ?_)
    · obtain ⟨e1, h⟩ := h; cases e1; exact j_sel [0, 2, 3, 4] rfl h
    · obtain ⟨e1, h⟩ := h; cases e1
  have jg109 : q_imp (x1 = 3) (J ω m_Cl_writeGate (d + 1) mc ms 0 0 109 [(0, .ref 71), (1, .int (zI x1)), (2, .int (zI x2)), (3, .int (zI x3)), (4, .int (zI x4)), (5, .int (zI x5))] [] σ Q) := by
    intro c
    have h := g109 c
    refine j_aload_n d_Cl_writeGate_109 0 rfl ?_
    refine j_iload_n d_Cl_writeGate_110 2 rfl ?_
    refine j_iload_n d_Cl_writeGate_111 3 rfl ?_
    refine j_iconst (v := zI 1) d_Cl_writeGate_112 (by decide) ?_
    refine zj_ixor d_Cl_writeGate_113 ?_
    refine j_iload d_Cl_writeGate_114 4 rfl ?_
    refine j_iconst (v := zI 1) d_Cl_writeGate_116 (by decide) ?_
    refine zj_ixor d_Cl_writeGate_117 ?_
    refine j_callV m_Cl_put [.int (zI x2), .int (zI (zXor x3 1)), .int (zI (zXor x4 1))] [] d 0 0 cV_Cl_52 d_Cl_writeGate_118 rfl rfl (tg_71 hE) (q_okE hE (by decide)) (Nat.le_of_ble_eq_true rfl) (Nat.le_refl _) (Nat.le_of_ble_eq_true rfl) (Nat.zero_le _) (Nat.zero_le _) h (fun v τ h => ?_) (fun x τ h => ?_)
    · obtain ⟨e1, h⟩ := h; cases e1; exact j_sel [0, 2, 3, 4, 5] rfl h
    · obtain ⟨e1, h⟩ := h; cases e1
  have jgD : q_imp (x1 ≠ 1 ∧ x1 ≠ 2 ∧ x1 ≠ 3) (J ω m_Cl_writeGate (d + 1) mc ms 0 0 156 [(0, .ref 71), (1, .int (zI x1)), (2, .int (zI x2)), (3, .int (zI x3)), (4, .int (zI x4)), (5, .int (zI x5))] [] σ Q) := by
    intro c
    have h := gD c
    exact j_vret d_Cl_writeGate_156 rfl (Nat.zero_le _) (Nat.zero_le _) h
  by_cases cs1 : x1 = 1
  · exact j_topE (v := zI 1) (by rw [cs1]) (j_tabIn 28 d_Cl_writeGate_1 (by decide) (by decide) rfl (by decide) (jg28 cs1))
  by_cases cs2 : x1 = 2
  · exact j_topE (v := zI 2) (by rw [cs2]) (j_tabIn 62 d_Cl_writeGate_1 (by decide) (by decide) rfl (by decide) (jg62 cs2))
  by_cases cs3 : x1 = 3
  · exact j_topE (v := zI 3) (by rw [cs3]) (j_tabIn 109 d_Cl_writeGate_1 (by decide) (by decide) rfl (by decide) (jg109 cs3))
  exact j_tabOut 156 d_Cl_writeGate_1 (by rw [zI_toInt r1]; exact o_Cl_writeGate_1 cs1 cs2 cs3) (by decide) (jgD ⟨cs1, cs2, cs3⟩)
set_option maxHeartbeats 2000000 in
theorem b_Cl_writeGate_37 {ω : q_W} {σ : q_H} {Q : q_R → q_H → Prop} {d mc ms : Nat} {x2 : Int} {x3 : Int} {x4 : Int}  (hE : q_E σ) (h : (J ω m_Cl_put d 0 0 0 0 0 [(0, .ref 71), (1, .int (zI (zXor x2 1))), (2, .int (zI x4)), (3, .int (zI 0))] [] σ (q_kv (fun τ => J ω m_Cl_writeGate (d + 1) mc ms 0 0 47 [(0, .ref 71), (2, .int (zI x2)), (3, .int (zI x3)), (4, .int (zI x4))] [] τ Q)))) : J ω m_Cl_writeGate (d + 1) mc ms 0 0 37 [(0, .ref 71), (2, .int (zI x2)), (3, .int (zI x3)), (4, .int (zI x4))] [] σ Q := by
  refine j_aload_n d_Cl_writeGate_37 0 rfl ?_
  refine j_iload_n d_Cl_writeGate_38 1 rfl ?_
  refine j_iconst (v := zI 1) d_Cl_writeGate_39 (by decide) ?_
  refine zj_ixor d_Cl_writeGate_40 ?_
  refine j_iload d_Cl_writeGate_41 3 rfl ?_
  refine j_iconst (v := zI 0) d_Cl_writeGate_43 (by decide) ?_
  refine j_callV m_Cl_put [.int (zI (zXor x2 1)), .int (zI x4), .int (zI 0)] [] d 0 0 cV_Cl_52 d_Cl_writeGate_44 rfl rfl (tg_71 hE) (q_okE hE (by decide)) (Nat.le_of_ble_eq_true rfl) (Nat.le_refl _) (Nat.le_of_ble_eq_true rfl) (Nat.zero_le _) (Nat.zero_le _) h (fun v τ h => ?_) (fun x τ h => ?_)
  · obtain ⟨e1, h⟩ := h; cases e1; exact j_sel [0, 1, 2, 3] rfl h
  · obtain ⟨e1, h⟩ := h; cases e1
set_option maxHeartbeats 2000000 in
theorem b_Cl_writeGate_72 {ω : q_W} {σ : q_H} {Q : q_R → q_H → Prop} {d mc ms : Nat} {x2 : Int} {x3 : Int} {x4 : Int}  (hE : q_E σ) (h : (J ω m_Cl_put d 0 0 0 0 0 [(0, .ref 71), (1, .int (zI (zXor x2 1))), (2, .int (zI (zXor x3 1))), (3, .int (zI (zXor x4 1)))] [] σ (q_kv (fun τ => J ω m_Cl_writeGate (d + 1) mc ms 0 0 86 [(0, .ref 71), (2, .int (zI x2)), (3, .int (zI x3)), (4, .int (zI x4))] [] τ Q)))) : J ω m_Cl_writeGate (d + 1) mc ms 0 0 72 [(0, .ref 71), (2, .int (zI x2)), (3, .int (zI x3)), (4, .int (zI x4))] [] σ Q := by
  refine j_aload_n d_Cl_writeGate_72 0 rfl ?_
  refine j_iload_n d_Cl_writeGate_73 1 rfl ?_
  refine j_iconst (v := zI 1) d_Cl_writeGate_74 (by decide) ?_
  refine zj_ixor d_Cl_writeGate_75 ?_
  refine j_iload_n d_Cl_writeGate_76 2 rfl ?_
  refine j_iconst (v := zI 1) d_Cl_writeGate_77 (by decide) ?_
  refine zj_ixor d_Cl_writeGate_78 ?_
  refine j_iload d_Cl_writeGate_79 3 rfl ?_
  refine j_iconst (v := zI 1) d_Cl_writeGate_81 (by decide) ?_
  refine zj_ixor d_Cl_writeGate_82 ?_
  refine j_callV m_Cl_put [.int (zI (zXor x2 1)), .int (zI (zXor x3 1)), .int (zI (zXor x4 1))] [] d 0 0 cV_Cl_52 d_Cl_writeGate_83 rfl rfl (tg_71 hE) (q_okE hE (by decide)) (Nat.le_of_ble_eq_true rfl) (Nat.le_refl _) (Nat.le_of_ble_eq_true rfl) (Nat.zero_le _) (Nat.zero_le _) h (fun v τ h => ?_) (fun x τ h => ?_)
  · obtain ⟨e1, h⟩ := h; cases e1; exact j_sel [0, 1, 2, 3] rfl h
  · obtain ⟨e1, h⟩ := h; cases e1
set_option maxHeartbeats 2000000 in
theorem b_Cl_writeGate_121 {ω : q_W} {σ : q_H} {Q : q_R → q_H → Prop} {d mc ms : Nat} {x2 : Int} {x3 : Int} {x4 : Int} {x5 : Int}  (hE : q_E σ) (h : (J ω m_Cl_put d 0 0 0 0 0 [(0, .ref 71), (1, .int (zI (zXor x2 1))), (2, .int (zI (zXor x3 1))), (3, .int (zI x4))] [] σ (q_kv (fun τ => J ω m_Cl_writeGate (d + 1) mc ms 0 0 133 [(0, .ref 71), (2, .int (zI x2)), (3, .int (zI x3)), (5, .int (zI x5))] [] τ Q)))) : J ω m_Cl_writeGate (d + 1) mc ms 0 0 121 [(0, .ref 71), (2, .int (zI x2)), (3, .int (zI x3)), (4, .int (zI x4)), (5, .int (zI x5))] [] σ Q := by
  refine j_aload_n d_Cl_writeGate_121 0 rfl ?_
  refine j_iload_n d_Cl_writeGate_122 1 rfl ?_
  refine j_iconst (v := zI 1) d_Cl_writeGate_123 (by decide) ?_
  refine zj_ixor d_Cl_writeGate_124 ?_
  refine j_iload_n d_Cl_writeGate_125 2 rfl ?_
  refine j_iconst (v := zI 1) d_Cl_writeGate_126 (by decide) ?_
  refine zj_ixor d_Cl_writeGate_127 ?_
  refine j_iload d_Cl_writeGate_128 3 rfl ?_
  refine j_callV m_Cl_put [.int (zI (zXor x2 1)), .int (zI (zXor x3 1)), .int (zI x4)] [] d 0 0 cV_Cl_52 d_Cl_writeGate_130 rfl rfl (tg_71 hE) (q_okE hE (by decide)) (Nat.le_of_ble_eq_true rfl) (Nat.le_refl _) (Nat.le_of_ble_eq_true rfl) (Nat.zero_le _) (Nat.zero_le _) h (fun v τ h => ?_) (fun x τ h => ?_)
  · obtain ⟨e1, h⟩ := h; cases e1; exact j_sel [0, 1, 2, 4] rfl h
  · obtain ⟨e1, h⟩ := h; cases e1
set_option maxHeartbeats 2000000 in
theorem b_Cl_writeGate_47 {ω : q_W} {σ : q_H} {Q : q_R → q_H → Prop} {d mc ms : Nat} {x2 : Int} {x3 : Int} {x4 : Int}  (hE : q_E σ) (h : (J ω m_Cl_put d 0 0 0 0 0 [(0, .ref 71), (1, .int (zI x2)), (2, .int (zI (zXor x3 1))), (3, .int (zI (zXor x4 1)))] [] σ (q_kv (fun τ => J ω m_Cl_writeGate (d + 1) mc ms 0 0 59 [] [] τ Q)))) : J ω m_Cl_writeGate (d + 1) mc ms 0 0 47 [(0, .ref 71), (2, .int (zI x2)), (3, .int (zI x3)), (4, .int (zI x4))] [] σ Q := by
  refine j_aload_n d_Cl_writeGate_47 0 rfl ?_
  refine j_iload_n d_Cl_writeGate_48 1 rfl ?_
  refine j_iload_n d_Cl_writeGate_49 2 rfl ?_
  refine j_iconst (v := zI 1) d_Cl_writeGate_50 (by decide) ?_
  refine zj_ixor d_Cl_writeGate_51 ?_
  refine j_iload d_Cl_writeGate_52 3 rfl ?_
  refine j_iconst (v := zI 1) d_Cl_writeGate_54 (by decide) ?_
  refine zj_ixor d_Cl_writeGate_55 ?_
  refine j_callV m_Cl_put [.int (zI x2), .int (zI (zXor x3 1)), .int (zI (zXor x4 1))] [] d 0 0 cV_Cl_52 d_Cl_writeGate_56 rfl rfl (tg_71 hE) (q_okE hE (by decide)) (Nat.le_of_ble_eq_true rfl) (Nat.le_refl _) (Nat.le_of_ble_eq_true rfl) (Nat.zero_le _) (Nat.zero_le _) h (fun v τ h => ?_) (fun x τ h => ?_)
  · obtain ⟨e1, h⟩ := h; cases e1; exact j_sel [] rfl h
  · obtain ⟨e1, h⟩ := h; cases e1
set_option maxHeartbeats 2000000 in
theorem b_Cl_writeGate_86 {ω : q_W} {σ : q_H} {Q : q_R → q_H → Prop} {d mc ms : Nat} {x2 : Int} {x3 : Int} {x4 : Int}  (hE : q_E σ) (h : (J ω m_Cl_put d 0 0 0 0 0 [(0, .ref 71), (1, .int (zI x2)), (2, .int (zI (zXor x3 1))), (3, .int (zI x4))] [] σ (q_kv (fun τ => J ω m_Cl_writeGate (d + 1) mc ms 0 0 96 [(0, .ref 71), (2, .int (zI x2)), (3, .int (zI x3)), (4, .int (zI x4))] [] τ Q)))) : J ω m_Cl_writeGate (d + 1) mc ms 0 0 86 [(0, .ref 71), (2, .int (zI x2)), (3, .int (zI x3)), (4, .int (zI x4))] [] σ Q := by
  refine j_aload_n d_Cl_writeGate_86 0 rfl ?_
  refine j_iload_n d_Cl_writeGate_87 1 rfl ?_
  refine j_iload_n d_Cl_writeGate_88 2 rfl ?_
  refine j_iconst (v := zI 1) d_Cl_writeGate_89 (by decide) ?_
  refine zj_ixor d_Cl_writeGate_90 ?_
  refine j_iload d_Cl_writeGate_91 3 rfl ?_
  refine j_callV m_Cl_put [.int (zI x2), .int (zI (zXor x3 1)), .int (zI x4)] [] d 0 0 cV_Cl_52 d_Cl_writeGate_93 rfl rfl (tg_71 hE) (q_okE hE (by decide)) (Nat.le_of_ble_eq_true rfl) (Nat.le_refl _) (Nat.le_of_ble_eq_true rfl) (Nat.zero_le _) (Nat.zero_le _) h (fun v τ h => ?_) (fun x τ h => ?_)
  · obtain ⟨e1, h⟩ := h; cases e1; exact j_sel [0, 1, 2, 3] rfl h
  · obtain ⟨e1, h⟩ := h; cases e1
set_option maxHeartbeats 2000000 in
theorem b_Cl_writeGate_133 {ω : q_W} {σ : q_H} {Q : q_R → q_H → Prop} {d mc ms : Nat} {x2 : Int} {x3 : Int} {x5 : Int}  (hE : q_E σ) (h : (J ω m_Cl_put d 0 0 0 0 0 [(0, .ref 71), (1, .int (zI x2)), (2, .int (zI x3)), (3, .int (zI (zXor x5 1)))] [] σ (q_kv (fun τ => J ω m_Cl_writeGate (d + 1) mc ms 0 0 143 [(0, .ref 71), (2, .int (zI x2)), (3, .int (zI x3)), (5, .int (zI x5))] [] τ Q)))) : J ω m_Cl_writeGate (d + 1) mc ms 0 0 133 [(0, .ref 71), (2, .int (zI x2)), (3, .int (zI x3)), (5, .int (zI x5))] [] σ Q := by
  refine j_aload_n d_Cl_writeGate_133 0 rfl ?_
  refine j_iload_n d_Cl_writeGate_134 1 rfl ?_
  refine j_iload_n d_Cl_writeGate_135 2 rfl ?_
  refine j_iload d_Cl_writeGate_136 3 rfl ?_
  refine j_iconst (v := zI 1) d_Cl_writeGate_138 (by decide) ?_
  refine zj_ixor d_Cl_writeGate_139 ?_
  refine j_callV m_Cl_put [.int (zI x2), .int (zI x3), .int (zI (zXor x5 1))] [] d 0 0 cV_Cl_52 d_Cl_writeGate_140 rfl rfl (tg_71 hE) (q_okE hE (by decide)) (Nat.le_of_ble_eq_true rfl) (Nat.le_refl _) (Nat.le_of_ble_eq_true rfl) (Nat.zero_le _) (Nat.zero_le _) h (fun v τ h => ?_) (fun x τ h => ?_)
  · obtain ⟨e1, h⟩ := h; cases e1; exact j_sel [0, 1, 2, 3] rfl h
  · obtain ⟨e1, h⟩ := h; cases e1
set_option maxHeartbeats 2000000 in
theorem b_Cl_writeGate_59 {ω : q_W} {σ : q_H} {Q : q_R → q_H → Prop} {d mc ms : Nat}   (hE : q_E σ) (h : (Q (.inl none) σ)) : J ω m_Cl_writeGate (d + 1) mc ms 0 0 59 [] [] σ Q := by
  refine j_goto 156 d_Cl_writeGate_59 (by decide) ?_
  exact j_vret d_Cl_writeGate_156 rfl (Nat.zero_le _) (Nat.zero_le _) h
set_option maxHeartbeats 2000000 in
theorem b_Cl_writeGate_96 {ω : q_W} {σ : q_H} {Q : q_R → q_H → Prop} {d mc ms : Nat} {x2 : Int} {x3 : Int} {x4 : Int}  (hE : q_E σ) (h : (J ω m_Cl_put d 0 0 0 0 0 [(0, .ref 71), (1, .int (zI x2)), (2, .int (zI x3)), (3, .int (zI (zXor x4 1)))] [] σ (q_kv (fun τ => J ω m_Cl_writeGate (d + 1) mc ms 0 0 106 [] [] τ Q)))) : J ω m_Cl_writeGate (d + 1) mc ms 0 0 96 [(0, .ref 71), (2, .int (zI x2)), (3, .int (zI x3)), (4, .int (zI x4))] [] σ Q := by
  refine j_aload_n d_Cl_writeGate_96 0 rfl ?_
  refine j_iload_n d_Cl_writeGate_97 1 rfl ?_
  refine j_iload_n d_Cl_writeGate_98 2 rfl ?_
  refine j_iload d_Cl_writeGate_99 3 rfl ?_
  refine j_iconst (v := zI 1) d_Cl_writeGate_101 (by decide) ?_
  refine zj_ixor d_Cl_writeGate_102 ?_
  refine j_callV m_Cl_put [.int (zI x2), .int (zI x3), .int (zI (zXor x4 1))] [] d 0 0 cV_Cl_52 d_Cl_writeGate_103 rfl rfl (tg_71 hE) (q_okE hE (by decide)) (Nat.le_of_ble_eq_true rfl) (Nat.le_refl _) (Nat.le_of_ble_eq_true rfl) (Nat.zero_le _) (Nat.zero_le _) h (fun v τ h => ?_) (fun x τ h => ?_)
  · obtain ⟨e1, h⟩ := h; cases e1; exact j_sel [] rfl h
  · obtain ⟨e1, h⟩ := h; cases e1
set_option maxHeartbeats 2000000 in
theorem b_Cl_writeGate_143 {ω : q_W} {σ : q_H} {Q : q_R → q_H → Prop} {d mc ms : Nat} {x2 : Int} {x3 : Int} {x5 : Int}  (hE : q_E σ) (h : (J ω m_Cl_put d 0 0 0 0 0 [(0, .ref 71), (1, .int (zI (zXor x2 1))), (2, .int (zI x3)), (3, .int (zI x5))] [] σ (q_kv (fun τ => J ω m_Cl_writeGate (d + 1) mc ms 0 0 153 [] [] τ Q)))) : J ω m_Cl_writeGate (d + 1) mc ms 0 0 143 [(0, .ref 71), (2, .int (zI x2)), (3, .int (zI x3)), (5, .int (zI x5))] [] σ Q := by
  refine j_aload_n d_Cl_writeGate_143 0 rfl ?_
  refine j_iload_n d_Cl_writeGate_144 1 rfl ?_
  refine j_iconst (v := zI 1) d_Cl_writeGate_145 (by decide) ?_
  refine zj_ixor d_Cl_writeGate_146 ?_
  refine j_iload_n d_Cl_writeGate_147 2 rfl ?_
  refine j_iload d_Cl_writeGate_148 3 rfl ?_
  refine j_callV m_Cl_put [.int (zI (zXor x2 1)), .int (zI x3), .int (zI x5)] [] d 0 0 cV_Cl_52 d_Cl_writeGate_150 rfl rfl (tg_71 hE) (q_okE hE (by decide)) (Nat.le_of_ble_eq_true rfl) (Nat.le_refl _) (Nat.le_of_ble_eq_true rfl) (Nat.zero_le _) (Nat.zero_le _) h (fun v τ h => ?_) (fun x τ h => ?_)
  · obtain ⟨e1, h⟩ := h; cases e1; exact j_sel [] rfl h
  · obtain ⟨e1, h⟩ := h; cases e1
set_option maxHeartbeats 2000000 in
theorem b_Cl_writeGate_106 {ω : q_W} {σ : q_H} {Q : q_R → q_H → Prop} {d mc ms : Nat}   (hE : q_E σ) (h : (Q (.inl none) σ)) : J ω m_Cl_writeGate (d + 1) mc ms 0 0 106 [] [] σ Q := by
  refine j_goto 156 d_Cl_writeGate_106 (by decide) ?_
  exact j_vret d_Cl_writeGate_156 rfl (Nat.zero_le _) (Nat.zero_le _) h
set_option maxHeartbeats 2000000 in
theorem b_Cl_writeGate_153 {ω : q_W} {σ : q_H} {Q : q_R → q_H → Prop} {d mc ms : Nat}   (hE : q_E σ) (h : (Q (.inl none) σ)) : J ω m_Cl_writeGate (d + 1) mc ms 0 0 153 [] [] σ Q := by
  refine j_goto 156 d_Cl_writeGate_153 (by decide) ?_
  exact j_vret d_Cl_writeGate_156 rfl (Nat.zero_le _) (Nat.zero_le _) h
set_option maxHeartbeats 2000000 in
theorem b_Cl_put_0 {ω : q_W} {σ : q_H} {Q : q_R → q_H → Prop} {d mc ms : Nat} {x1 : Int} {x2 : Int} {x3 : Int}  (hE : q_E σ) (h : inR x3 ∧ q_imp (x3 ≠ 0) ((J ω m_Cl_put (d + 1) mc ms 0 0 9 [(0, .ref 71), (1, .int (zI x1)), (2, .int (zI x2)), (3, .int (zI x3))] [.int (zI 3)] σ Q)) ∧ q_imp (x3 = 0) ((J ω m_Cl_put (d + 1) mc ms 0 0 9 [(0, .ref 71), (1, .int (zI x1)), (2, .int (zI x2)), (3, .int (zI x3))] [.int (zI 2)] σ Q))) : J ω m_Cl_put (d + 1) mc ms 0 0 0 [(0, .ref 71), (1, .int (zI x1)), (2, .int (zI x2)), (3, .int (zI x3))] [] σ Q := by
  refine j_iload_n d_Cl_put_0 3 rfl ?_
  obtain ⟨r1, h⟩ := h
  obtain ⟨h1, h2⟩ := h
  refine zj_if_ne 8 d_Cl_put_1 (by decide) r1 (fun k2 => ?_) (fun k2 => ?_)
  · have h := h1 k2
    refine j_iconst (v := zI 3) d_Cl_put_8 (by decide) ?_
    exact j_sel [0, 1, 2, 3] rfl h
  · have h := h2 k2
    refine j_iconst (v := zI 2) d_Cl_put_4 (by decide) ?_
    refine j_goto 9 d_Cl_put_5 (by decide) ?_
    exact j_sel [0, 1, 2, 3] rfl h
set_option maxHeartbeats 2000000 in
theorem b_Cl_put_9 {ω : q_W} {σ : q_H} {Q : q_R → q_H → Prop} {d mc ms : Nat} {x1 : Int} {x2 : Int} {x3 : Int} {y0 : Int}  (hE : q_E σ) (h : inR (((z σ 71 3) + 3) + y0) ∧ q_imp ((((z σ 71 3) + 3) + y0) ≤ 360000) ((0 ≤ (z σ 71 3) ∧ (z σ 71 3) < 360000) ∧ (0 ≤ ((z σ 71 3) + 3) ∧ ((z σ 71 3) + 3) < 360000) ∧ (0 ≤ ((z σ 71 3) + 4) ∧ ((z σ 71 3) + 4) < 360000) ∧ inR y0 ∧ q_imp (y0 ≠ 3) ((J ω m_Cl_put (d + 1) mc ms 0 0 93 [(0, .ref 71), (4, .int (zI y0))] [] (zs (zs (zs σ 72 (z σ 71 3).toNat y0) 72 ((z σ 71 3) + 3).toNat x1) 72 ((z σ 71 3) + 4).toNat x2) Q)) ∧ q_imp (y0 = 3) ((0 ≤ ((z σ 71 3) + 5) ∧ ((z σ 71 3) + 5) < 360000) ∧ (J ω m_Cl_put (d + 1) mc ms 0 0 93 [(0, .ref 71), (4, .int (zI y0))] [] (zs (zs (zs (zs σ 72 (z σ 71 3).toNat y0) 72 ((z σ 71 3) + 3).toNat x1) 72 ((z σ 71 3) + 4).toNat x2) 72 ((z σ 71 3) + 5).toNat x3) Q))) ∧ q_imp ((((z σ 71 3) + 3) + y0) > 360000) ((Q (.inl none) (zs σ 71 4 ((z σ 71 4) + 1))))) : J ω m_Cl_put (d + 1) mc ms 0 0 9 [(0, .ref 71), (1, .int (zI x1)), (2, .int (zI x2)), (3, .int (zI x3))] [.int (zI y0)] σ Q := by
  refine j_istore (L' := [(4, .int (zI y0)), (0, .ref 71), (1, .int (zI x1)), (2, .int (zI x2)), (3, .int (zI x3))]) d_Cl_put_9 (by decide) rfl ?_
  refine j_aload_n d_Cl_put_11 1 rfl ?_
  refine zj_getI (z σ 71 3) f_Cl_22 d_Cl_put_12 (tg_71 hE) (q_okE hE (by decide)) (q_z _ _ _) ?_
  refine j_iconst (v := zI 3) d_Cl_put_15 (by decide) ?_
  refine zj_iadd ((z σ 71 3) + 3) (by omega) d_Cl_put_16 ?_
  refine j_iload d_Cl_put_17 0 rfl ?_
  refine zj_iadd (((z σ 71 3) + 3) + y0) rfl d_Cl_put_19 ?_
  refine j_ldc (v := 360000) k_Cl_9 d_Cl_put_20 ?_
  refine j_topE (v := zI 360000) (by decide) ?_
  obtain ⟨r3, h⟩ := h
  obtain ⟨h1, h2⟩ := h
  refine zj_icmp_le 36 d_Cl_put_22 (by decide) r3 ⟨by decide, by decide⟩ (fun k4 => ?_) (fun k4 => ?_)
  · have h := h1 k4
    refine j_aload_n d_Cl_put_36 1 rfl ?_
    refine j_getR 72 f_Cl_10 d_Cl_put_37 (tg_71 hE) (q_okE hE (by decide)) (rf_71_0 hE) (by decide) ?_
    refine j_aload_n d_Cl_put_40 1 rfl ?_
    refine zj_getI (z σ 71 3) f_Cl_22 d_Cl_put_41 (tg_71 hE) (q_okE hE (by decide)) (q_z _ _ _) ?_
    refine j_iload d_Cl_put_44 0 rfl ?_
    obtain ⟨c5, h⟩ := h
    refine zj_iast d_Cl_put_46 (tg_72 hE) (q_okE hE (by decide)) c5 (by decide) ?_
    refine j_aload_n d_Cl_put_47 1 rfl ?_
    refine j_getR 72 f_Cl_10 d_Cl_put_48 (tg_71 (zs_E hE)) (q_okE (zs_E hE) (by decide)) (rf_71_0 (zs_E hE)) (by decide) ?_
    refine j_aload_n d_Cl_put_51 1 rfl ?_
    refine zj_getI (z σ 71 3) f_Cl_22 d_Cl_put_52 (tg_71 (zs_E hE)) (q_okE (zs_E hE) (by decide)) (Eq.trans (qs_o (by decide)) (q_z _ _ _)) ?_
    refine j_iconst (v := zI 3) d_Cl_put_55 (by decide) ?_
    refine zj_iadd ((z σ 71 3) + 3) (by omega) d_Cl_put_56 ?_
    refine j_iload_n d_Cl_put_57 2 rfl ?_
    obtain ⟨c6, h⟩ := h
    refine zj_iast d_Cl_put_58 (tg_72 (zs_E hE)) (q_okE (zs_E hE) (by decide)) c6 (by decide) ?_
    refine j_aload_n d_Cl_put_59 1 rfl ?_
    refine j_getR 72 f_Cl_10 d_Cl_put_60 (tg_71 (zs_E (zs_E hE))) (q_okE (zs_E (zs_E hE)) (by decide)) (rf_71_0 (zs_E (zs_E hE))) (by decide) ?_
    refine j_aload_n d_Cl_put_63 1 rfl ?_
    refine zj_getI (z σ 71 3) f_Cl_22 d_Cl_put_64 (tg_71 (zs_E (zs_E hE))) (q_okE (zs_E (zs_E hE)) (by decide)) (Eq.trans (qs_o (by decide)) (Eq.trans (qs_o (by decide)) (q_z _ _ _))) ?_
    refine j_iconst (v := zI 3) d_Cl_put_67 (by decide) ?_
    refine zj_iadd ((z σ 71 3) + 3) (by omega) d_Cl_put_68 ?_
    refine j_iconst (v := zI 1) d_Cl_put_69 (by decide) ?_
    refine zj_iadd ((z σ 71 3) + 4) (by omega) d_Cl_put_70 ?_
    refine j_iload_n d_Cl_put_71 3 rfl ?_
    obtain ⟨c7, h⟩ := h
    refine zj_iast d_Cl_put_72 (tg_72 (zs_E (zs_E hE))) (q_okE (zs_E (zs_E hE)) (by decide)) c7 (by decide) ?_
    refine j_iload d_Cl_put_73 0 rfl ?_
    refine j_iconst (v := zI 3) d_Cl_put_75 (by decide) ?_
    obtain ⟨r8, h⟩ := h
    obtain ⟨h1, h2⟩ := h
    refine zj_icmp_ne 93 d_Cl_put_76 (by decide) r8 ⟨by decide, by decide⟩ (fun k9 => ?_) (fun k9 => ?_)
    · have h := h1 k9
      exact j_sel [1, 0] rfl h
    · have h := h2 k9
      refine j_aload_n d_Cl_put_79 1 rfl ?_
      refine j_getR 72 f_Cl_10 d_Cl_put_80 (tg_71 (zs_E (zs_E (zs_E hE)))) (q_okE (zs_E (zs_E (zs_E hE))) (by decide)) (rf_71_0 (zs_E (zs_E (zs_E hE)))) (by decide) ?_
      refine j_aload_n d_Cl_put_83 1 rfl ?_
      refine zj_getI (z σ 71 3) f_Cl_22 d_Cl_put_84 (tg_71 (zs_E (zs_E (zs_E hE)))) (q_okE (zs_E (zs_E (zs_E hE))) (by decide)) (Eq.trans (qs_o (by decide)) (Eq.trans (qs_o (by decide)) (Eq.trans (qs_o (by decide)) (q_z _ _ _)))) ?_
      refine j_iconst (v := zI 3) d_Cl_put_87 (by decide) ?_
      refine zj_iadd ((z σ 71 3) + 3) (by omega) d_Cl_put_88 ?_
      refine j_iconst (v := zI 2) d_Cl_put_89 (by decide) ?_
      refine zj_iadd ((z σ 71 3) + 5) (by omega) d_Cl_put_90 ?_
      refine j_iload_n d_Cl_put_91 4 rfl ?_
      obtain ⟨c10, h⟩ := h
      refine zj_iast d_Cl_put_92 (tg_72 (zs_E (zs_E (zs_E hE)))) (q_okE (zs_E (zs_E (zs_E hE))) (by decide)) c10 (by decide) ?_
      exact j_sel [1, 0] rfl h
  · have h := h2 k4
    refine j_aload_n d_Cl_put_25 1 rfl ?_
    refine j_dup d_Cl_put_26 rfl ?_
    refine zj_getI (z σ 71 4) f_Cl_56 d_Cl_put_27 (tg_71 hE) (q_okE hE (by decide)) (q_z _ _ _) ?_
    refine j_iconst (v := zI 1) d_Cl_put_30 (by decide) ?_
    refine zj_iadd ((z σ 71 4) + 1) (by omega) d_Cl_put_31 ?_
    refine zj_putI (g_Cl_56 _) d_Cl_put_32 (tg_71 hE) (q_okE hE (by decide)) ?_
    exact j_vret d_Cl_put_35 rfl (Nat.zero_le _) (Nat.zero_le _) h
set_option maxHeartbeats 2000000 in
theorem b_Cl_put_93 {ω : q_W} {σ : q_H} {Q : q_R → q_H → Prop} {d mc ms : Nat} {x4 : Int}  (hE : q_E σ) (h : (J ω m_Cl_watch d 0 0 0 0 0 [(0, .ref 71), (1, .int (zI (z σ 71 3)))] [] σ (q_kv (fun τ => J ω m_Cl_put (d + 1) mc ms 0 0 101 [(0, .ref 71), (4, .int (zI x4))] [] τ Q)))) : J ω m_Cl_put (d + 1) mc ms 0 0 93 [(0, .ref 71), (4, .int (zI x4))] [] σ Q := by
  refine j_aload_n d_Cl_put_93 0 rfl ?_
  refine j_aload_n d_Cl_put_94 0 rfl ?_
  refine zj_getI (z σ 71 3) f_Cl_22 d_Cl_put_95 (tg_71 hE) (q_okE hE (by decide)) (q_z _ _ _) ?_
  refine j_callV m_Cl_watch [.int (zI (z σ 71 3))] [] d 0 0 cV_Cl_59 d_Cl_put_98 rfl rfl (tg_71 hE) (q_okE hE (by decide)) (Nat.le_of_ble_eq_true rfl) (Nat.le_refl _) (Nat.le_of_ble_eq_true rfl) (Nat.zero_le _) (Nat.zero_le _) h (fun v τ h => ?_) (fun x τ h => ?_)
  · obtain ⟨e1, h⟩ := h; cases e1; exact j_sel [0, 1] rfl h
  · obtain ⟨e1, h⟩ := h; cases e1
set_option maxHeartbeats 2000000 in
theorem b_Cl_put_101 {ω : q_W} {σ : q_H} {Q : q_R → q_H → Prop} {d mc ms : Nat} {x4 : Int}  (hE : q_E σ) (h : (Q (.inl none) (zs σ 71 3 ((z σ 71 3) + (x4 + 3))))) : J ω m_Cl_put (d + 1) mc ms 0 0 101 [(0, .ref 71), (4, .int (zI x4))] [] σ Q := by
  refine j_aload_n d_Cl_put_101 0 rfl ?_
  refine j_dup d_Cl_put_102 rfl ?_
  refine zj_getI (z σ 71 3) f_Cl_22 d_Cl_put_103 (tg_71 hE) (q_okE hE (by decide)) (q_z _ _ _) ?_
  refine j_iconst (v := zI 3) d_Cl_put_106 (by decide) ?_
  refine j_iload d_Cl_put_107 1 rfl ?_
  refine zj_iadd (x4 + 3) (by omega) d_Cl_put_109 ?_
  refine zj_iadd ((z σ 71 3) + (x4 + 3)) rfl d_Cl_put_110 ?_
  refine zj_putI (g_Cl_22 _) d_Cl_put_111 (tg_71 hE) (q_okE hE (by decide)) ?_
  exact j_vret d_Cl_put_114 rfl (Nat.zero_le _) (Nat.zero_le _) h
set_option maxHeartbeats 2000000 in
theorem b_Cl_watch_0 {ω : q_W} {σ : q_H} {Q : q_R → q_H → Prop} {d mc ms : Nat} {x1 : Int}  (hE : q_E σ) (h : (0 ≤ (x1 + 3) ∧ (x1 + 3) < 360000) ∧ (0 ≤ (x1 + 4) ∧ (x1 + 4) < 360000) ∧ (0 ≤ (z σ 72 (x1 + 3).toNat) ∧ (z σ 72 (x1 + 3).toNat) < 20480) ∧ (0 ≤ (x1 + 1) ∧ (x1 + 1) < 360000) ∧ (0 ≤ (z σ 72 (x1 + 4).toNat) ∧ (z σ 72 (x1 + 4).toNat) < 20480) ∧ (0 ≤ (x1 + 2) ∧ (x1 + 2) < 360000) ∧ (Q (.inl none) (zs (zs (zs (zs σ 72 (x1 + 1).toNat (z σ 73 (z σ 72 (x1 + 3).toNat).toNat)) 73 (z σ 72 (x1 + 3).toNat).toNat x1) 72 (x1 + 2).toNat (z (zs (zs σ 72 (x1 + 1).toNat (z σ 73 (z σ 72 (x1 + 3).toNat).toNat)) 73 (z σ 72 (x1 + 3).toNat).toNat x1) 73 (z σ 72 (x1 + 4).toNat).toNat)) 73 (z σ 72 (x1 + 4).toNat).toNat x1))) : J ω m_Cl_watch d mc ms 0 0 0 [(0, .ref 71), (1, .int (zI x1))] [] σ Q := by
  refine j_aload_n d_Cl_watch_0 0 rfl ?_
  refine j_getR 72 f_Cl_10 d_Cl_watch_1 (tg_71 hE) (q_okE hE (by decide)) (rf_71_0 hE) (by decide) ?_
  refine j_iload_n d_Cl_watch_4 1 rfl ?_
  refine j_iconst (v := zI 3) d_Cl_watch_5 (by decide) ?_
  refine zj_iadd (x1 + 3) (by omega) d_Cl_watch_6 ?_
  obtain ⟨c1, h⟩ := h
  refine zj_iald (z σ 72 (x1 + 3).toNat) d_Cl_watch_7 (tg_72 hE) (q_okE hE (by decide)) c1 (by decide) (q_z _ _ _) ?_
  refine j_istore_n (L' := [(2, .int (zI (z σ 72 (x1 + 3).toNat))), (0, .ref 71), (1, .int (zI x1))]) d_Cl_watch_8 (by decide) rfl ?_
  refine j_aload_n d_Cl_watch_9 1 rfl ?_
  refine j_getR 72 f_Cl_10 d_Cl_watch_10 (tg_71 hE) (q_okE hE (by decide)) (rf_71_0 hE) (by decide) ?_
  refine j_iload_n d_Cl_watch_13 2 rfl ?_
  refine j_iconst (v := zI 3) d_Cl_watch_14 (by decide) ?_
  refine zj_iadd (x1 + 3) (by omega) d_Cl_watch_15 ?_
  refine j_iconst (v := zI 1) d_Cl_watch_16 (by decide) ?_
  refine zj_iadd (x1 + 4) (by omega) d_Cl_watch_17 ?_
  obtain ⟨c2, h⟩ := h
  refine zj_iald (z σ 72 (x1 + 4).toNat) d_Cl_watch_18 (tg_72 hE) (q_okE hE (by decide)) c2 (by decide) (q_z _ _ _) ?_
  refine j_istore_n (L' := [(3, .int (zI (z σ 72 (x1 + 4).toNat))), (2, .int (zI (z σ 72 (x1 + 3).toNat))), (0, .ref 71), (1, .int (zI x1))]) d_Cl_watch_19 (by decide) rfl ?_
  refine j_aload_n d_Cl_watch_20 2 rfl ?_
  refine j_getR 72 f_Cl_10 d_Cl_watch_21 (tg_71 hE) (q_okE hE (by decide)) (rf_71_0 hE) (by decide) ?_
  refine j_iload_n d_Cl_watch_24 3 rfl ?_
  refine j_iconst (v := zI 1) d_Cl_watch_25 (by decide) ?_
  refine zj_iadd (x1 + 1) (by omega) d_Cl_watch_26 ?_
  refine j_aload_n d_Cl_watch_27 2 rfl ?_
  refine j_getR 73 f_Cl_16 d_Cl_watch_28 (tg_71 hE) (q_okE hE (by decide)) (rf_71_1 hE) (by decide) ?_
  refine j_iload_n d_Cl_watch_31 1 rfl ?_
  obtain ⟨c3, h⟩ := h
  refine zj_iald (z σ 73 (z σ 72 (x1 + 3).toNat).toNat) d_Cl_watch_32 (tg_73 hE) (q_okE hE (by decide)) c3 (by decide) (q_z _ _ _) ?_
  obtain ⟨c4, h⟩ := h
  refine zj_iast d_Cl_watch_33 (tg_72 hE) (q_okE hE (by decide)) c4 (by decide) ?_
  refine j_aload_n d_Cl_watch_34 2 rfl ?_
  refine j_getR 73 f_Cl_16 d_Cl_watch_35 (tg_71 (zs_E hE)) (q_okE (zs_E hE) (by decide)) (rf_71_1 (zs_E hE)) (by decide) ?_
  refine j_iload_n d_Cl_watch_38 1 rfl ?_
  refine j_iload_n d_Cl_watch_39 3 rfl ?_
  refine zj_iast d_Cl_watch_40 (tg_73 (zs_E hE)) (q_okE (zs_E hE) (by decide)) c3 (by decide) ?_
  refine j_aload_n d_Cl_watch_41 2 rfl ?_
  refine j_getR 72 f_Cl_10 d_Cl_watch_42 (tg_71 (zs_E (zs_E hE))) (q_okE (zs_E (zs_E hE)) (by decide)) (rf_71_0 (zs_E (zs_E hE))) (by decide) ?_
  refine j_iload_n d_Cl_watch_45 3 rfl ?_
  refine j_iconst (v := zI 2) d_Cl_watch_46 (by decide) ?_
  refine zj_iadd (x1 + 2) (by omega) d_Cl_watch_47 ?_
  refine j_aload_n d_Cl_watch_48 2 rfl ?_
  refine j_getR 73 f_Cl_16 d_Cl_watch_49 (tg_71 (zs_E (zs_E hE))) (q_okE (zs_E (zs_E hE)) (by decide)) (rf_71_1 (zs_E (zs_E hE))) (by decide) ?_
  refine j_iload_n d_Cl_watch_52 0 rfl ?_
  obtain ⟨c5, h⟩ := h
  refine zj_iald (z (zs (zs σ 72 (x1 + 1).toNat (z σ 73 (z σ 72 (x1 + 3).toNat).toNat)) 73 (z σ 72 (x1 + 3).toNat).toNat x1) 73 (z σ 72 (x1 + 4).toNat).toNat) d_Cl_watch_53 (tg_73 (zs_E (zs_E hE))) (q_okE (zs_E (zs_E hE)) (by decide)) c5 (by decide) (q_z _ _ _) ?_
  obtain ⟨c6, h⟩ := h
  refine zj_iast d_Cl_watch_54 (tg_72 (zs_E (zs_E hE))) (q_okE (zs_E (zs_E hE)) (by decide)) c6 (by decide) ?_
  refine j_aload_n d_Cl_watch_55 2 rfl ?_
  refine j_getR 73 f_Cl_16 d_Cl_watch_56 (tg_71 (zs_E (zs_E (zs_E hE)))) (q_okE (zs_E (zs_E (zs_E hE))) (by decide)) (rf_71_1 (zs_E (zs_E (zs_E hE)))) (by decide) ?_
  refine j_iload_n d_Cl_watch_59 0 rfl ?_
  refine j_iload_n d_Cl_watch_60 3 rfl ?_
  refine zj_iast d_Cl_watch_61 (tg_73 (zs_E (zs_E (zs_E hE)))) (q_okE (zs_E (zs_E (zs_E hE))) (by decide)) c5 (by decide) ?_
  exact j_vret d_Cl_watch_62 rfl (Nat.zero_le _) (Nat.zero_le _) h
set_option maxHeartbeats 2000000 in
theorem b_Ch_clear_0 {ω : q_W} {σ : q_H} {Q : q_R → q_H → Prop} {d mc ms : Nat} {x1 : Int}  (hE : q_E σ) (h : (J ω m_H_wipe d 0 0 0 0 0 [(0, .ref 76), (1, .int (zI (2 * x1)))] [] σ (q_kv (fun τ => J ω m_Ch_clear (d + 1) mc ms 0 0 10 [(0, .ref 75)] [] τ Q)))) : J ω m_Ch_clear (d + 1) mc ms 0 0 0 [(0, .ref 75), (1, .int (zI x1))] [] σ Q := by
  refine j_aload_n d_Ch_clear_0 0 rfl ?_
  refine j_getR 76 f_Ch_11 d_Ch_clear_1 (tg_75 hE) (q_okE hE (by decide)) (rf_75_0 hE) (by decide) ?_
  refine j_iconst (v := zI 2) d_Ch_clear_4 (by decide) ?_
  refine j_iload_n d_Ch_clear_5 1 rfl ?_
  refine zj_imul (2 * x1) rfl d_Ch_clear_6 ?_
  refine j_callS m_H_wipe [.ref 76, .int (zI (2 * x1))] [] d 0 0 cS_Ch_20 d_Ch_clear_7 rfl rfl (Nat.le_of_ble_eq_true rfl) (Nat.le_refl _) (Nat.le_of_ble_eq_true rfl) (Nat.zero_le _) (Nat.zero_le _) h (fun v τ h => ?_) (fun x τ h => ?_)
  · obtain ⟨e1, h⟩ := h; cases e1; exact j_sel [0] rfl h
  · obtain ⟨e1, h⟩ := h; cases e1
set_option maxHeartbeats 2000000 in
theorem b_Ch_clear_10 {ω : q_W} {σ : q_H} {Q : q_R → q_H → Prop} {d mc ms : Nat}   (hE : q_E σ) (h : (Q (.inl none) (zs σ 76 0 1))) : J ω m_Ch_clear (d + 1) mc ms 0 0 10 [(0, .ref 75)] [] σ Q := by
  refine j_aload_n d_Ch_clear_10 0 rfl ?_
  refine j_getR 76 f_Ch_11 d_Ch_clear_11 (tg_75 hE) (q_okE hE (by decide)) (rf_75_0 hE) (by decide) ?_
  refine j_iconst (v := zI 0) d_Ch_clear_14 (by decide) ?_
  refine j_iconst (v := zI 1) d_Ch_clear_15 (by decide) ?_
  refine zj_iast d_Ch_clear_16 (tg_76 hE) (q_okE hE (by decide)) ⟨by decide, by decide⟩ (by decide) ?_
  exact j_vret d_Ch_clear_17 rfl (Nat.zero_le _) (Nat.zero_le _) h
set_option maxHeartbeats 2000000 in
theorem b_Cl_add_0 {ω : q_W} {σ : q_H} {Q : q_R → q_H → Prop} {d mc ms : Nat} {x2 : Int} {l nl : Nat} (tl : q_t σ l = (2, nl)) (ol : 0 < l ∧ l ≤ q_n σ) (hnl : nl < 2147483648) (hE : q_E σ) (h : inR (((z σ 71 3) + 3) + x2) ∧ q_imp ((((z σ 71 3) + 3) + x2) ≤ 360000) ((0 ≤ (z σ 71 3) ∧ (z σ 71 3) < 360000) ∧ ((0 : Int) ≤ 0 ∧ (0 : Int) ≤ ((z σ 71 3) + 3) ∧ (0 : Int) ≤ x2 ∧ (0 : Int) + x2 ≤ ((nl : Nat) : Int) ∧ (((z σ 71 3) + 3) : Int) + x2 ≤ ((360000 : Nat) : Int)) ∧ inR x2 ∧ q_imp (x2 ≤ 1) ((J ω m_Cl_add (d + 1) mc ms 0 0 60 [(0, .ref 71), (2, .int (zI x2)), (3, .int (zI (z σ 71 3)))] [] (zcp (zs σ 72 (z σ 71 3).toNat x2) l 0 72 ((z σ 71 3) + 3).toNat x2.toNat) Q)) ∧ q_imp (x2 > 1) ((J ω m_Cl_watch d 0 0 0 0 0 [(0, .ref 71), (1, .int (zI (z σ 71 3)))] [] (zcp (zs σ 72 (z σ 71 3).toNat x2) l 0 72 ((z σ 71 3) + 3).toNat x2.toNat) (q_kv (fun τ => J ω m_Cl_add (d + 1) mc ms 0 0 60 [(0, .ref 71), (2, .int (zI x2)), (3, .int (zI (z σ 71 3)))] [] τ Q))))) ∧ q_imp ((((z σ 71 3) + 3) + x2) > 360000) ((Q (.inl (some (.int (zI 0)))) (zs σ 71 4 ((z σ 71 4) + 1))))) : J ω m_Cl_add (d + 1) mc ms 0 0 0 [(0, .ref 71), (1, .ref l), (2, .int (zI x2))] [] σ Q := by
  refine j_aload_n d_Cl_add_0 0 rfl ?_
  refine zj_getI (z σ 71 3) f_Cl_22 d_Cl_add_1 (tg_71 hE) (q_okE hE (by decide)) (q_z _ _ _) ?_
  refine j_iconst (v := zI 3) d_Cl_add_4 (by decide) ?_
  refine zj_iadd ((z σ 71 3) + 3) (by omega) d_Cl_add_5 ?_
  refine j_iload_n d_Cl_add_6 2 rfl ?_
  refine zj_iadd (((z σ 71 3) + 3) + x2) rfl d_Cl_add_7 ?_
  refine j_ldc (v := 360000) k_Cl_9 d_Cl_add_8 ?_
  refine j_topE (v := zI 360000) (by decide) ?_
  obtain ⟨r1, h⟩ := h
  obtain ⟨h1, h2⟩ := h
  refine zj_icmp_le 25 d_Cl_add_10 (by decide) r1 ⟨by decide, by decide⟩ (fun k2 => ?_) (fun k2 => ?_)
  · have h := h1 k2
    refine j_aload_n d_Cl_add_25 0 rfl ?_
    refine zj_getI (z σ 71 3) f_Cl_22 d_Cl_add_26 (tg_71 hE) (q_okE hE (by decide)) (q_z _ _ _) ?_
    refine j_istore_n (L' := [(3, .int (zI (z σ 71 3))), (0, .ref 71), (1, .ref l), (2, .int (zI x2))]) d_Cl_add_29 (by decide) rfl ?_
    refine j_aload_n d_Cl_add_30 1 rfl ?_
    refine j_getR 72 f_Cl_10 d_Cl_add_31 (tg_71 hE) (q_okE hE (by decide)) (rf_71_0 hE) (by decide) ?_
    refine j_iload_n d_Cl_add_34 0 rfl ?_
    refine j_iload_n d_Cl_add_35 3 rfl ?_
    obtain ⟨c3, h⟩ := h
    refine zj_iast d_Cl_add_36 (tg_72 hE) (q_okE hE (by decide)) c3 (by decide) ?_
    refine j_aload_n d_Cl_add_37 2 rfl ?_
    refine j_iconst (v := zI 0) d_Cl_add_38 (by decide) ?_
    refine j_aload_n d_Cl_add_39 1 rfl ?_
    refine j_getR 72 f_Cl_10 d_Cl_add_40 (tg_71 (zs_E hE)) (q_okE (zs_E hE) (by decide)) (rf_71_0 (zs_E hE)) (by decide) ?_
    refine j_iload_n d_Cl_add_43 0 rfl ?_
    refine j_iconst (v := zI 3) d_Cl_add_44 (by decide) ?_
    refine zj_iadd ((z σ 71 3) + 3) (by omega) d_Cl_add_45 ?_
    refine j_iload_n d_Cl_add_46 3 rfl ?_
    obtain ⟨c4, h⟩ := h
    refine zj_copy (List.mem_of_getElem? (i := 1259) (by decide +kernel)) d_Cl_add_47 tl ol (tg_72 (zs_E hE)) (q_okE (zs_E hE) (by decide)) c4 hnl (by decide) (Nat.succ_le_succ (Nat.zero_le _)) (Nat.le_of_ble_eq_true rfl) ?_
    refine j_iload_n d_Cl_add_50 3 rfl ?_
    refine j_iconst (v := zI 1) d_Cl_add_51 (by decide) ?_
    obtain ⟨r5, h⟩ := h
    obtain ⟨h1, h2⟩ := h
    refine zj_icmp_le 60 d_Cl_add_52 (by decide) r5 ⟨by decide, by decide⟩ (fun k6 => ?_) (fun k6 => ?_)
    · have h := h1 k6
      exact j_sel [1, 3, 0] rfl h
    · have h := h2 k6
      refine j_aload_n d_Cl_add_55 1 rfl ?_
      refine j_iload_n d_Cl_add_56 0 rfl ?_
      refine j_callV m_Cl_watch [.int (zI (z σ 71 3))] [] d 0 0 cV_Cl_59 d_Cl_add_57 rfl rfl (tg_71 (zcp_E (zs_E hE))) (q_okE (zcp_E (zs_E hE)) (by decide)) (Nat.le_of_ble_eq_true rfl) (Nat.le_refl _) (Nat.le_of_ble_eq_true rfl) (Nat.zero_le _) (Nat.zero_le _) h (fun v τ h => ?_) (fun x τ h => ?_)
      · obtain ⟨e1, h⟩ := h; cases e1; exact j_sel [1, 3, 0] rfl h
      · obtain ⟨e1, h⟩ := h; cases e1
  · have h := h2 k2
    refine j_aload_n d_Cl_add_13 0 rfl ?_
    refine j_dup d_Cl_add_14 rfl ?_
    refine zj_getI (z σ 71 4) f_Cl_56 d_Cl_add_15 (tg_71 hE) (q_okE hE (by decide)) (q_z _ _ _) ?_
    refine j_iconst (v := zI 1) d_Cl_add_18 (by decide) ?_
    refine zj_iadd ((z σ 71 4) + 1) (by omega) d_Cl_add_19 ?_
    refine zj_putI (g_Cl_56 _) d_Cl_add_20 (tg_71 hE) (q_okE hE (by decide)) ?_
    refine j_iconst (v := zI 0) d_Cl_add_23 (by decide) ?_
    exact zj_iret d_Cl_add_24 rfl (Nat.zero_le _) (Nat.zero_le _) h
set_option maxHeartbeats 2000000 in
theorem b_Cl_add_60 {ω : q_W} {σ : q_H} {Q : q_R → q_H → Prop} {d mc ms : Nat} {x2 : Int} {x3 : Int} {l nl : Nat} (tl : q_t σ l = (2, nl)) (ol : 0 < l ∧ l ≤ q_n σ) (hnl : nl < 2147483648) (hE : q_E σ) (h : (Q (.inl (some (.int (zI x3)))) (zs σ 71 3 ((z σ 71 3) + (x2 + 3))))) : J ω m_Cl_add (d + 1) mc ms 0 0 60 [(0, .ref 71), (2, .int (zI x2)), (3, .int (zI x3))] [] σ Q := by
  refine j_aload_n d_Cl_add_60 0 rfl ?_
  refine j_dup d_Cl_add_61 rfl ?_
  refine zj_getI (z σ 71 3) f_Cl_22 d_Cl_add_62 (tg_71 hE) (q_okE hE (by decide)) (q_z _ _ _) ?_
  refine j_iconst (v := zI 3) d_Cl_add_65 (by decide) ?_
  refine j_iload_n d_Cl_add_66 1 rfl ?_
  refine zj_iadd (x2 + 3) (by omega) d_Cl_add_67 ?_
  refine zj_iadd ((z σ 71 3) + (x2 + 3)) rfl d_Cl_add_68 ?_
  refine zj_putI (g_Cl_22 _) d_Cl_add_69 (tg_71 hE) (q_okE hE (by decide)) ?_
  refine j_iload_n d_Cl_add_72 2 rfl ?_
  exact zj_iret d_Cl_add_73 rfl (Nat.zero_le _) (Nat.zero_le _) h
set_option maxHeartbeats 2000000 in
theorem b_Ch_knows_0 {ω : q_W} {σ : q_H} {Q : q_R → q_H → Prop} {d mc ms : Nat} {x1 : Int}  (hE : q_E σ) (h : (0 ≤ x1 ∧ x1 < 20480) ∧ q_imp ((z σ 76 x1.toNat) ≠ 1) ((Q (.inl (some (.int (zI 0)))) σ)) ∧ q_imp ((z σ 76 x1.toNat) = 1) ((Q (.inl (some (.int (zI 1)))) σ))) : J ω m_Ch_knows d mc ms 0 0 0 [(0, .ref 75), (1, .int (zI x1))] [] σ Q := by
  refine j_aload_n d_Ch_knows_0 0 rfl ?_
  refine j_getR 76 f_Ch_11 d_Ch_knows_1 (tg_75 hE) (q_okE hE (by decide)) (rf_75_0 hE) (by decide) ?_
  refine j_iload_n d_Ch_knows_4 1 rfl ?_
  obtain ⟨c1, h⟩ := h
  refine zj_iald (z σ 76 x1.toNat) d_Ch_knows_5 (tg_76 hE) (q_okE hE (by decide)) c1 (by decide) (q_z _ _ _) ?_
  refine j_iconst (v := zI 1) d_Ch_knows_6 (by decide) ?_
  obtain ⟨h1, h2⟩ := h
  refine zj_icmp_ne 14 d_Ch_knows_7 (by decide) (z_R _ _ _) ⟨by decide, by decide⟩ (fun k2 => ?_) (fun k2 => ?_)
  · have h := h1 k2
    refine j_iconst (v := zI 0) d_Ch_knows_14 (by decide) ?_
    exact zj_zret d_Ch_knows_15 rfl (by decide) (Nat.zero_le _) (Nat.zero_le _) h
  · have h := h2 k2
    refine j_iconst (v := zI 1) d_Ch_knows_10 (by decide) ?_
    refine j_goto 15 d_Ch_knows_11 (by decide) ?_
    exact zj_zret d_Ch_knows_15 rfl (by decide) (Nat.zero_le _) (Nat.zero_le _) h
set_option maxHeartbeats 2000000 in
theorem b_Ch_check_0 {ω : q_W} {σ : q_H} {Q : q_R → q_H → Prop} {d mc ms : Nat} {x3 : Int} {x5 : Int}  (hE : q_E σ) (h : (J ω m_Ch_follows d 0 0 0 0 0 [(0, .ref 75), (1, .ref 72), (2, .ref 85), (3, .int (zI x3)), (4, .ref 86), (5, .int (zI x5))] [] σ (q_ki (fun v τ => J ω m_Ch_check (d + 1) mc ms 0 0 11 [(0, .ref 75), (2, .ref 85), (3, .int (zI x3))] [.int (zI v)] τ Q)))) : J ω m_Ch_check (d + 1) mc ms 0 0 0 [(0, .ref 75), (1, .ref 72), (2, .ref 85), (3, .int (zI x3)), (4, .ref 86), (5, .int (zI x5))] [] σ Q := by
  refine j_aload_n d_Ch_check_0 0 rfl ?_
  refine j_aload_n d_Ch_check_1 1 rfl ?_
  refine j_aload_n d_Ch_check_2 2 rfl ?_
  refine j_iload_n d_Ch_check_3 3 rfl ?_
  refine j_aload d_Ch_check_4 4 rfl ?_
  refine j_iload d_Ch_check_6 5 rfl ?_
  refine j_callV m_Ch_follows [.ref 72, .ref 85, .int (zI x3), .ref 86, .int (zI x5)] [] d 0 0 cV_Ch_24 d_Ch_check_8 rfl rfl (tg_75 hE) (q_okE hE (by decide)) (Nat.le_of_ble_eq_true rfl) (Nat.le_refl _) (Nat.le_of_ble_eq_true rfl) (Nat.zero_le _) (Nat.zero_le _) h (fun v τ h => ?_) (fun x τ h => ?_)
  · obtain ⟨v, hv, e1, h⟩ := h; cases e1; exact j_sel [0, 2, 3] rfl h
  · obtain ⟨v, hv, e1, h⟩ := h; cases e1
set_option maxHeartbeats 2000000 in
theorem b_Ch_check_11 {ω : q_W} {σ : q_H} {Q : q_R → q_H → Prop} {d mc ms : Nat} {x3 : Int} {y0 : Int}  (hE : q_E σ) (h : inR y0 ∧ q_imp (y0 ≠ 0) (inR x3 ∧ q_imp (x3 ≠ 1) ((Q (.inl none) σ)) ∧ q_imp (x3 = 1) ((0 ≤ (z σ 85 0) ∧ (z σ 85 0) < 20480) ∧ (Q (.inl none) (zs σ 76 (z σ 85 0).toNat 1)))) ∧ q_imp (y0 = 0) ((Q (.inl none) (zs σ 75 3 ((z σ 75 3) + 1))))) : J ω m_Ch_check (d + 1) mc ms 0 0 11 [(0, .ref 75), (2, .ref 85), (3, .int (zI x3))] [.int (zI y0)] σ Q := by
  obtain ⟨r1, h⟩ := h
  obtain ⟨h1, h2⟩ := h
  refine zj_if_ne 27 d_Ch_check_11 (by decide) r1 (fun k2 => ?_) (fun k2 => ?_)
  · have h := h1 k2
    refine j_iload_n d_Ch_check_27 2 rfl ?_
    refine j_iconst (v := zI 1) d_Ch_check_28 (by decide) ?_
    obtain ⟨r3, h⟩ := h
    obtain ⟨h1, h2⟩ := h
    refine zj_icmp_ne 41 d_Ch_check_29 (by decide) r3 ⟨by decide, by decide⟩ (fun k4 => ?_) (fun k4 => ?_)
    · have h := h1 k4
      exact j_vret d_Ch_check_41 rfl (Nat.zero_le _) (Nat.zero_le _) h
    · have h := h2 k4
      refine j_aload_n d_Ch_check_32 0 rfl ?_
      refine j_getR 76 f_Ch_11 d_Ch_check_33 (tg_75 hE) (q_okE hE (by decide)) (rf_75_0 hE) (by decide) ?_
      refine j_aload_n d_Ch_check_36 1 rfl ?_
      refine j_iconst (v := zI 0) d_Ch_check_37 (by decide) ?_
      refine zj_iald (z σ 85 0) d_Ch_check_38 (tg_85 hE) (q_okE hE (by decide)) ⟨by decide, by decide⟩ (by decide) (q_z _ _ _) ?_
      refine j_iconst (v := zI 1) d_Ch_check_39 (by decide) ?_
      obtain ⟨c5, h⟩ := h
      refine zj_iast d_Ch_check_40 (tg_76 hE) (q_okE hE (by decide)) c5 (by decide) ?_
      exact j_vret d_Ch_check_41 rfl (Nat.zero_le _) (Nat.zero_le _) h
  · have h := h2 k2
    refine j_aload_n d_Ch_check_14 0 rfl ?_
    refine j_dup d_Ch_check_15 rfl ?_
    refine zj_getI (z σ 75 3) f_Ch_28 d_Ch_check_16 (tg_75 hE) (q_okE hE (by decide)) (q_z _ _ _) ?_
    refine j_iconst (v := zI 1) d_Ch_check_19 (by decide) ?_
    refine zj_iadd ((z σ 75 3) + 1) (by omega) d_Ch_check_20 ?_
    refine zj_putI (g_Ch_28 _) d_Ch_check_21 (tg_75 hE) (q_okE hE (by decide)) ?_
    refine j_goto 41 d_Ch_check_24 (by decide) ?_
    exact j_vret d_Ch_check_41 rfl (Nat.zero_le _) (Nat.zero_le _) h
set_option maxHeartbeats 2000000 in
theorem b_Ch_follows_0 {ω : q_W} {σ : q_H} {Q : q_R → q_H → Prop} {d mc ms : Nat} {x3 : Int} {x5 : Int}  (hE : q_E σ) (h : (J ω m_Ch_follows (d + 1) mc ms 0 0 13 [(0, .ref 75), (1, .ref 72), (2, .ref 85), (3, .int (zI x3)), (4, .ref 86), (5, .int (zI x5)), (6, .int (zI 0))] [] (zs σ 75 2 ((z σ 75 2) + 1)) Q)) : J ω m_Ch_follows (d + 1) mc ms 0 0 0 [(0, .ref 75), (1, .ref 72), (2, .ref 85), (3, .int (zI x3)), (4, .ref 86), (5, .int (zI x5))] [] σ Q := by
  refine j_aload_n d_Ch_follows_0 0 rfl ?_
  refine j_dup d_Ch_follows_1 rfl ?_
  refine zj_getI (z σ 75 2) f_Ch_32 d_Ch_follows_2 (tg_75 hE) (q_okE hE (by decide)) (q_z _ _ _) ?_
  refine j_iconst (v := zI 1) d_Ch_follows_5 (by decide) ?_
  refine zj_iadd ((z σ 75 2) + 1) (by omega) d_Ch_follows_6 ?_
  refine zj_putI (g_Ch_32 _) d_Ch_follows_7 (tg_75 hE) (q_okE hE (by decide)) ?_
  refine j_iconst (v := zI 0) d_Ch_follows_10 (by decide) ?_
  refine j_istore (L' := [(6, .int (zI 0)), (0, .ref 75), (1, .ref 72), (2, .ref 85), (3, .int (zI x3)), (4, .ref 86), (5, .int (zI x5))]) d_Ch_follows_11 (by decide) rfl ?_
  exact j_sel [1, 2, 3, 4, 5, 6, 0] rfl h
set_option maxHeartbeats 2000000 in
theorem b_Ch_follows_13 {ω : q_W} {σ : q_H} {Q : q_R → q_H → Prop} {d mc ms : Nat} {x3 : Int} {x5 : Int} {x6 : Int}  (hE : q_E σ) (h : inR x6 ∧ inR x3 ∧ q_imp (x6 ≥ x3) ((J ω m_Ch_follows (d + 1) mc ms 0 0 77 [(0, .ref 75), (1, .ref 72), (4, .ref 86), (6, .int (zI (x5 - 1)))] [] σ Q)) ∧ q_imp (x6 < x3) ((0 ≤ x6 ∧ x6 < 10240) ∧ (0 ≤ (z σ 85 x6.toNat) ∧ (z σ 85 x6.toNat) < 20480) ∧ q_imp ((z σ 76 (z σ 85 x6.toNat).toNat) = 1) ((Q (.inl (some (.int (zI 1)))) σ)) ∧ q_imp ((z σ 76 (z σ 85 x6.toNat).toNat) ≠ 1) (q_imp ((z σ 77 (z σ 85 x6.toNat).toNat) ≠ (z σ 75 2)) ((0 ≤ (zXor (z σ 85 x6.toNat) 1) ∧ (zXor (z σ 85 x6.toNat) 1) < 20480) ∧ (J ω m_Ch_follows (d + 1) mc ms 0 0 13 [(0, .ref 75), (1, .ref 72), (2, .ref 85), (3, .int (zI x3)), (4, .ref 86), (5, .int (zI x5)), (6, .int (zI (x6 + 1)))] [] (zs σ 77 (zXor (z σ 85 x6.toNat) 1).toNat (z σ 75 2)) Q)) ∧ q_imp ((z σ 77 (z σ 85 x6.toNat).toNat) = (z σ 75 2)) ((Q (.inl (some (.int (zI 1)))) σ))))) : J ω m_Ch_follows (d + 1) mc ms 0 0 13 [(0, .ref 75), (1, .ref 72), (2, .ref 85), (3, .int (zI x3)), (4, .ref 86), (5, .int (zI x5)), (6, .int (zI x6))] [] σ Q := by
  refine j_iload d_Ch_follows_13 6 rfl ?_
  refine j_iload_n d_Ch_follows_15 3 rfl ?_
  obtain ⟨r1, h⟩ := h
  obtain ⟨r2, h⟩ := h
  obtain ⟨h1, h2⟩ := h
  refine zj_icmp_ge 71 d_Ch_follows_16 (by decide) r1 r2 (fun k3 => ?_) (fun k3 => ?_)
  · have h := h1 k3
    refine j_iload d_Ch_follows_71 5 rfl ?_
    refine j_iconst (v := zI 1) d_Ch_follows_73 (by decide) ?_
    refine zj_isub (x5 - 1) (by omega) d_Ch_follows_74 ?_
    refine j_istore (L' := [(6, .int (zI (x5 - 1))), (0, .ref 75), (1, .ref 72), (2, .ref 85), (3, .int (zI x3)), (4, .ref 86), (5, .int (zI x5))]) d_Ch_follows_75 (by decide) rfl ?_
    exact j_sel [1, 2, 5, 0] rfl h
  · have h := h2 k3
    refine j_aload_n d_Ch_follows_19 0 rfl ?_
    refine j_getR 76 f_Ch_11 d_Ch_follows_20 (tg_75 hE) (q_okE hE (by decide)) (rf_75_0 hE) (by decide) ?_
    refine j_aload_n d_Ch_follows_23 2 rfl ?_
    refine j_iload d_Ch_follows_24 6 rfl ?_
    obtain ⟨c4, h⟩ := h
    refine zj_iald (z σ 85 x6.toNat) d_Ch_follows_26 (tg_85 hE) (q_okE hE (by decide)) c4 (by decide) (q_z _ _ _) ?_
    obtain ⟨c5, h⟩ := h
    refine zj_iald (z σ 76 (z σ 85 x6.toNat).toNat) d_Ch_follows_27 (tg_76 hE) (q_okE hE (by decide)) c5 (by decide) (q_z _ _ _) ?_
    refine j_iconst (v := zI 1) d_Ch_follows_28 (by decide) ?_
    obtain ⟨h1, h2⟩ := h
    refine zj_icmp_eq 48 d_Ch_follows_29 (by decide) (z_R _ _ _) ⟨by decide, by decide⟩ (fun k6 => ?_) (fun k6 => ?_)
    · have h := h1 k6
      refine j_iconst (v := zI 1) d_Ch_follows_48 (by decide) ?_
      exact zj_zret d_Ch_follows_49 rfl (by decide) (Nat.zero_le _) (Nat.zero_le _) h
    · have h := h2 k6
      refine j_aload_n d_Ch_follows_32 0 rfl ?_
      refine j_getR 77 f_Ch_17 d_Ch_follows_33 (tg_75 hE) (q_okE hE (by decide)) (rf_75_1 hE) (by decide) ?_
      refine j_aload_n d_Ch_follows_36 2 rfl ?_
      refine j_iload d_Ch_follows_37 6 rfl ?_
      refine zj_iald (z σ 85 x6.toNat) d_Ch_follows_39 (tg_85 hE) (q_okE hE (by decide)) c4 (by decide) (q_z _ _ _) ?_
      refine zj_iald (z σ 77 (z σ 85 x6.toNat).toNat) d_Ch_follows_40 (tg_77 hE) (q_okE hE (by decide)) c5 (by decide) (q_z _ _ _) ?_
      refine j_aload_n d_Ch_follows_41 0 rfl ?_
      refine zj_getI (z σ 75 2) f_Ch_32 d_Ch_follows_42 (tg_75 hE) (q_okE hE (by decide)) (q_z _ _ _) ?_
      obtain ⟨h1, h2⟩ := h
      refine zj_icmp_ne 50 d_Ch_follows_45 (by decide) (z_R _ _ _) (z_R _ _ _) (fun k7 => ?_) (fun k7 => ?_)
      · have h := h1 k7
        refine j_aload_n d_Ch_follows_50 0 rfl ?_
        refine j_getR 77 f_Ch_17 d_Ch_follows_51 (tg_75 hE) (q_okE hE (by decide)) (rf_75_1 hE) (by decide) ?_
        refine j_aload_n d_Ch_follows_54 2 rfl ?_
        refine j_iload d_Ch_follows_55 6 rfl ?_
        refine zj_iald (z σ 85 x6.toNat) d_Ch_follows_57 (tg_85 hE) (q_okE hE (by decide)) c4 (by decide) (q_z _ _ _) ?_
        refine j_iconst (v := zI 1) d_Ch_follows_58 (by decide) ?_
        refine zj_ixor d_Ch_follows_59 ?_
        refine j_aload_n d_Ch_follows_60 0 rfl ?_
        refine zj_getI (z σ 75 2) f_Ch_32 d_Ch_follows_61 (tg_75 hE) (q_okE hE (by decide)) (q_z _ _ _) ?_
        obtain ⟨c8, h⟩ := h
        refine zj_iast d_Ch_follows_64 (tg_77 hE) (q_okE hE (by decide)) c8 (by decide) ?_
        refine zj_iinc (L' := [(6, .int (zI (x6 + 1))), (0, .ref 75), (1, .ref 72), (2, .ref 85), (3, .int (zI x3)), (4, .ref 86), (5, .int (zI x5))]) (x6 + 1) d_Ch_follows_65 6 rfl (by omega) (by decide) rfl ?_
        refine j_goto 13 d_Ch_follows_68 (by decide) ?_
        exact j_sel [1, 2, 3, 4, 5, 6, 0] rfl h
      · have h := h2 k7
        refine j_iconst (v := zI 1) d_Ch_follows_48 (by decide) ?_
        exact zj_zret d_Ch_follows_49 rfl (by decide) (Nat.zero_le _) (Nat.zero_le _) h
set_option maxHeartbeats 2000000 in
theorem b_Ch_follows_77 {ω : q_W} {σ : q_H} {Q : q_R → q_H → Prop} {d mc ms : Nat} {x6 : Int}  (hE : q_E σ) (h : inR x6 ∧ q_imp (x6 < 0) ((Q (.inl (some (.int (zI 0)))) σ)) ∧ q_imp (0 ≤ x6) ((0 ≤ x6 ∧ x6 < 10240) ∧ q_imp ((z σ 86 x6.toNat) ≠ 0) ((J ω m_Ch_remainder d 0 0 0 0 0 [(0, .ref 75), (1, .ref 72), (2, .int (zI (z σ 86 x6.toNat)))] [] σ (q_ki (fun v τ => J ω m_Ch_follows (d + 1) mc ms 0 0 105 [(0, .ref 75), (1, .ref 72), (4, .ref 86), (6, .int (zI x6))] [.int (zI v)] τ Q)))) ∧ q_imp ((z σ 86 x6.toNat) = 0) ((J ω m_Ch_follows (d + 1) mc ms 0 0 105 [(0, .ref 75), (1, .ref 72), (4, .ref 86), (6, .int (zI x6))] [.int (zI (-2))] σ Q)))) : J ω m_Ch_follows (d + 1) mc ms 0 0 77 [(0, .ref 75), (1, .ref 72), (4, .ref 86), (6, .int (zI x6))] [] σ Q := by
  refine j_iload d_Ch_follows_77 3 rfl ?_
  obtain ⟨r9, h⟩ := h
  obtain ⟨h1, h2⟩ := h
  refine zj_if_lt 141 d_Ch_follows_79 (by decide) r9 (fun k10 => ?_) (fun k10 => ?_)
  · have h := h1 k10
    refine j_iconst (v := zI 0) d_Ch_follows_141 (by decide) ?_
    exact zj_zret d_Ch_follows_142 rfl (by decide) (Nat.zero_le _) (Nat.zero_le _) h
  · have h := h2 k10
    refine j_aload d_Ch_follows_82 2 rfl ?_
    refine j_iload d_Ch_follows_84 3 rfl ?_
    obtain ⟨c11, h⟩ := h
    refine zj_iald (z σ 86 x6.toNat) d_Ch_follows_86 (tg_86 hE) (q_okE hE (by decide)) c11 (by decide) (q_z _ _ _) ?_
    obtain ⟨h1, h2⟩ := h
    refine zj_if_ne 95 d_Ch_follows_87 (by decide) (z_R _ _ _) (fun k12 => ?_) (fun k12 => ?_)
    · have h := h1 k12
      refine j_aload_n d_Ch_follows_95 0 rfl ?_
      refine j_aload_n d_Ch_follows_96 1 rfl ?_
      refine j_aload d_Ch_follows_97 2 rfl ?_
      refine j_iload d_Ch_follows_99 3 rfl ?_
      refine zj_iald (z σ 86 x6.toNat) d_Ch_follows_101 (tg_86 hE) (q_okE hE (by decide)) c11 (by decide) (q_z _ _ _) ?_
      refine j_callV m_Ch_remainder [.ref 72, .int (zI (z σ 86 x6.toNat))] [] d 0 0 cV_Ch_35 d_Ch_follows_102 rfl rfl (tg_75 hE) (q_okE hE (by decide)) (Nat.le_of_ble_eq_true rfl) (Nat.le_refl _) (Nat.le_of_ble_eq_true rfl) (Nat.zero_le _) (Nat.zero_le _) h (fun v τ h => ?_) (fun x τ h => ?_)
      · obtain ⟨v, hv, e1, h⟩ := h; cases e1; exact j_sel [0, 1, 2, 3] rfl h
      · obtain ⟨v, hv, e1, h⟩ := h; cases e1
    · have h := h2 k12
      refine j_bipush (v := zI (-2)) d_Ch_follows_90 (by decide) ?_
      refine j_goto 105 d_Ch_follows_92 (by decide) ?_
      exact j_sel [0, 1, 2, 3] rfl h
set_option maxHeartbeats 2000000 in
theorem b_Ch_follows_105 {ω : q_W} {σ : q_H} {Q : q_R → q_H → Prop} {d mc ms : Nat} {x6 : Int} {y0 : Int}  (hE : q_E σ) (h : inR y0 ∧ q_imp (y0 ≠ (-1)) (q_imp (y0 ≠ (-2)) ((0 ≤ y0 ∧ y0 < 20480) ∧ (J ω m_Ch_follows (d + 1) mc ms 0 0 77 [(0, .ref 75), (1, .ref 72), (4, .ref 86), (6, .int (zI (x6 - 1)))] [] (zs σ 77 y0.toNat (z σ 75 2)) Q)) ∧ q_imp (y0 = (-2)) ((Q (.inl (some (.int (zI 0)))) σ))) ∧ q_imp (y0 = (-1)) ((Q (.inl (some (.int (zI 1)))) σ))) : J ω m_Ch_follows (d + 1) mc ms 0 0 105 [(0, .ref 75), (1, .ref 72), (4, .ref 86), (6, .int (zI x6))] [.int (zI y0)] σ Q := by
  refine j_istore (L' := [(7, .int (zI y0)), (0, .ref 75), (1, .ref 72), (4, .ref 86), (6, .int (zI x6))]) d_Ch_follows_105 (by decide) rfl ?_
  refine j_iload d_Ch_follows_107 0 rfl ?_
  refine j_iconst (v := zI (-1)) d_Ch_follows_109 (by decide) ?_
  obtain ⟨r13, h⟩ := h
  obtain ⟨h1, h2⟩ := h
  refine zj_icmp_ne 115 d_Ch_follows_110 (by decide) r13 ⟨by decide, by decide⟩ (fun k14 => ?_) (fun k14 => ?_)
  · have h := h1 k14
    refine j_iload d_Ch_follows_115 0 rfl ?_
    refine j_bipush (v := zI (-2)) d_Ch_follows_117 (by decide) ?_
    obtain ⟨h1, h2⟩ := h
    refine zj_icmp_ne 124 d_Ch_follows_119 (by decide) r13 ⟨by decide, by decide⟩ (fun k15 => ?_) (fun k15 => ?_)
    · have h := h1 k15
      refine j_aload_n d_Ch_follows_124 1 rfl ?_
      refine j_getR 77 f_Ch_17 d_Ch_follows_125 (tg_75 hE) (q_okE hE (by decide)) (rf_75_1 hE) (by decide) ?_
      refine j_iload d_Ch_follows_128 0 rfl ?_
      refine j_aload_n d_Ch_follows_130 1 rfl ?_
      refine zj_getI (z σ 75 2) f_Ch_32 d_Ch_follows_131 (tg_75 hE) (q_okE hE (by decide)) (q_z _ _ _) ?_
      obtain ⟨c16, h⟩ := h
      refine zj_iast d_Ch_follows_134 (tg_77 hE) (q_okE hE (by decide)) c16 (by decide) ?_
      refine zj_iinc (L' := [(6, .int (zI (x6 - 1))), (7, .int (zI y0)), (0, .ref 75), (1, .ref 72), (4, .ref 86)]) (x6 - 1) d_Ch_follows_135 4 rfl (by omega) (by decide) rfl ?_
      refine j_goto 77 d_Ch_follows_138 (by decide) ?_
      exact j_sel [2, 3, 4, 0] rfl h
    · have h := h2 k15
      refine j_iconst (v := zI 0) d_Ch_follows_122 (by decide) ?_
      exact zj_zret d_Ch_follows_123 rfl (by decide) (Nat.zero_le _) (Nat.zero_le _) h
  · have h := h2 k14
    refine j_iconst (v := zI 1) d_Ch_follows_113 (by decide) ?_
    exact zj_zret d_Ch_follows_114 rfl (by decide) (Nat.zero_le _) (Nat.zero_le _) h
set_option maxHeartbeats 2000000 in
theorem b_Ch_remainder_0 {ω : q_W} {σ : q_H} {Q : q_R → q_H → Prop} {d mc ms : Nat} {x2 : Int}  (hE : q_E σ) (h : (0 ≤ x2 ∧ x2 < 360000) ∧ (J ω m_Ch_remainder d mc ms 0 0 16 [(0, .ref 75), (1, .ref 72), (3, .int (zI (-1))), (4, .int (zI ((x2 + 3) + (z σ 72 x2.toNat)))), (5, .int (zI (x2 + 3)))] [] σ Q)) : J ω m_Ch_remainder d mc ms 0 0 0 [(0, .ref 75), (1, .ref 72), (2, .int (zI x2))] [] σ Q := by
  refine j_iconst (v := zI (-1)) d_Ch_remainder_0 (by decide) ?_
  refine j_istore_n (L' := [(3, .int (zI (-1))), (0, .ref 75), (1, .ref 72), (2, .int (zI x2))]) d_Ch_remainder_1 (by decide) rfl ?_
  refine j_iload_n d_Ch_remainder_2 3 rfl ?_
  refine j_iconst (v := zI 3) d_Ch_remainder_3 (by decide) ?_
  refine zj_iadd (x2 + 3) (by omega) d_Ch_remainder_4 ?_
  refine j_aload_n d_Ch_remainder_5 2 rfl ?_
  refine j_iload_n d_Ch_remainder_6 3 rfl ?_
  obtain ⟨c1, h⟩ := h
  refine zj_iald (z σ 72 x2.toNat) d_Ch_remainder_7 (tg_72 hE) (q_okE hE (by decide)) c1 (by decide) (q_z _ _ _) ?_
  refine zj_iadd ((x2 + 3) + (z σ 72 x2.toNat)) rfl d_Ch_remainder_8 ?_
  refine j_istore (L' := [(4, .int (zI ((x2 + 3) + (z σ 72 x2.toNat)))), (3, .int (zI (-1))), (0, .ref 75), (1, .ref 72), (2, .int (zI x2))]) d_Ch_remainder_9 (by decide) rfl ?_
  refine j_iload_n d_Ch_remainder_11 4 rfl ?_
  refine j_iconst (v := zI 3) d_Ch_remainder_12 (by decide) ?_
  refine zj_iadd (x2 + 3) (by omega) d_Ch_remainder_13 ?_
  refine j_istore (L' := [(5, .int (zI (x2 + 3))), (4, .int (zI ((x2 + 3) + (z σ 72 x2.toNat)))), (3, .int (zI (-1))), (0, .ref 75), (1, .ref 72), (2, .int (zI x2))]) d_Ch_remainder_14 (by decide) rfl ?_
  exact j_sel [3, 4, 2, 1, 0] rfl h
set_option maxHeartbeats 2000000 in
theorem b_Ch_remainder_16 {ω : q_W} {σ : q_H} {Q : q_R → q_H → Prop} {d mc ms : Nat} {x3 : Int} {x4 : Int} {x5 : Int}  (hE : q_E σ) (h : inR x5 ∧ inR x4 ∧ q_imp (x5 ≥ x4) ((Q (.inl (some (.int (zI x3)))) σ)) ∧ q_imp (x5 < x4) ((0 ≤ x5 ∧ x5 < 360000) ∧ (0 ≤ (zXor (z σ 72 x5.toNat) 1) ∧ (zXor (z σ 72 x5.toNat) 1) < 20480) ∧ q_imp ((z σ 76 (zXor (z σ 72 x5.toNat) 1).toNat) = 1) ((J ω m_Ch_remainder d mc ms 0 0 16 [(0, .ref 75), (1, .ref 72), (3, .int (zI x3)), (4, .int (zI x4)), (5, .int (zI (x5 + 1)))] [] σ Q)) ∧ q_imp ((z σ 76 (zXor (z σ 72 x5.toNat) 1).toNat) ≠ 1) (q_imp ((z σ 77 (zXor (z σ 72 x5.toNat) 1).toNat) = (z σ 75 2)) ((J ω m_Ch_remainder d mc ms 0 0 16 [(0, .ref 75), (1, .ref 72), (3, .int (zI x3)), (4, .int (zI x4)), (5, .int (zI (x5 + 1)))] [] σ Q)) ∧ q_imp ((z σ 77 (zXor (z σ 72 x5.toNat) 1).toNat) ≠ (z σ 75 2)) (inR x3 ∧ q_imp (x3 = (-1)) ((J ω m_Ch_remainder d mc ms 0 0 16 [(0, .ref 75), (1, .ref 72), (3, .int (zI (z σ 72 x5.toNat))), (4, .int (zI x4)), (5, .int (zI (x5 + 1)))] [] σ Q)) ∧ q_imp (x3 ≠ (-1)) ((Q (.inl (some (.int (zI (-2))))) σ)))))) : J ω m_Ch_remainder d mc ms 0 0 16 [(0, .ref 75), (1, .ref 72), (3, .int (zI x3)), (4, .int (zI x4)), (5, .int (zI x5))] [] σ Q := by
  refine j_iload d_Ch_remainder_16 4 rfl ?_
  refine j_iload d_Ch_remainder_18 3 rfl ?_
  obtain ⟨r2, h⟩ := h
  obtain ⟨r3, h⟩ := h
  obtain ⟨h1, h2⟩ := h
  refine zj_icmp_ge 75 d_Ch_remainder_20 (by decide) r2 r3 (fun k4 => ?_) (fun k4 => ?_)
  · have h := h1 k4
    refine j_iload_n d_Ch_remainder_75 2 rfl ?_
    exact zj_iret d_Ch_remainder_76 rfl (Nat.zero_le _) (Nat.zero_le _) h
  · have h := h2 k4
    refine j_aload_n d_Ch_remainder_23 1 rfl ?_
    refine j_iload d_Ch_remainder_24 4 rfl ?_
    obtain ⟨c5, h⟩ := h
    refine zj_iald (z σ 72 x5.toNat) d_Ch_remainder_26 (tg_72 hE) (q_okE hE (by decide)) c5 (by decide) (q_z _ _ _) ?_
    refine j_iconst (v := zI 1) d_Ch_remainder_27 (by decide) ?_
    refine zj_ixor d_Ch_remainder_28 ?_
    refine j_istore (L' := [(6, .int (zI (zXor (z σ 72 x5.toNat) 1))), (0, .ref 75), (1, .ref 72), (3, .int (zI x3)), (4, .int (zI x4)), (5, .int (zI x5))]) d_Ch_remainder_29 (by decide) rfl ?_
    refine j_aload_n d_Ch_remainder_31 1 rfl ?_
    refine j_getR 76 f_Ch_11 d_Ch_remainder_32 (tg_75 hE) (q_okE hE (by decide)) (rf_75_0 hE) (by decide) ?_
    refine j_iload d_Ch_remainder_35 0 rfl ?_
    obtain ⟨c6, h⟩ := h
    refine zj_iald (z σ 76 (zXor (z σ 72 x5.toNat) 1).toNat) d_Ch_remainder_37 (tg_76 hE) (q_okE hE (by decide)) c6 (by decide) (q_z _ _ _) ?_
    refine j_iconst (v := zI 1) d_Ch_remainder_38 (by decide) ?_
    obtain ⟨h1, h2⟩ := h
    refine zj_icmp_eq 69 d_Ch_remainder_39 (by decide) (z_R _ _ _) ⟨by decide, by decide⟩ (fun k7 => ?_) (fun k7 => ?_)
    · have h := h1 k7
      refine zj_iinc (L' := [(5, .int (zI (x5 + 1))), (6, .int (zI (zXor (z σ 72 x5.toNat) 1))), (0, .ref 75), (1, .ref 72), (3, .int (zI x3)), (4, .int (zI x4))]) (x5 + 1) d_Ch_remainder_69 5 rfl (by omega) (by decide) rfl ?_
      refine j_goto 16 d_Ch_remainder_72 (by decide) ?_
      exact j_sel [2, 3, 4, 5, 0] rfl h
    · have h := h2 k7
      refine j_aload_n d_Ch_remainder_42 1 rfl ?_
      refine j_getR 77 f_Ch_17 d_Ch_remainder_43 (tg_75 hE) (q_okE hE (by decide)) (rf_75_1 hE) (by decide) ?_
      refine j_iload d_Ch_remainder_46 0 rfl ?_
      refine zj_iald (z σ 77 (zXor (z σ 72 x5.toNat) 1).toNat) d_Ch_remainder_48 (tg_77 hE) (q_okE hE (by decide)) c6 (by decide) (q_z _ _ _) ?_
      refine j_aload_n d_Ch_remainder_49 1 rfl ?_
      refine zj_getI (z σ 75 2) f_Ch_32 d_Ch_remainder_50 (tg_75 hE) (q_okE hE (by decide)) (q_z _ _ _) ?_
      obtain ⟨h1, h2⟩ := h
      refine zj_icmp_eq 69 d_Ch_remainder_53 (by decide) (z_R _ _ _) (z_R _ _ _) (fun k8 => ?_) (fun k8 => ?_)
      · have h := h1 k8
        refine zj_iinc (L' := [(5, .int (zI (x5 + 1))), (6, .int (zI (zXor (z σ 72 x5.toNat) 1))), (0, .ref 75), (1, .ref 72), (3, .int (zI x3)), (4, .int (zI x4))]) (x5 + 1) d_Ch_remainder_69 5 rfl (by omega) (by decide) rfl ?_
        refine j_goto 16 d_Ch_remainder_72 (by decide) ?_
        exact j_sel [2, 3, 4, 5, 0] rfl h
      · have h := h2 k8
        refine j_iload_n d_Ch_remainder_56 3 rfl ?_
        refine j_iconst (v := zI (-1)) d_Ch_remainder_57 (by decide) ?_
        obtain ⟨r9, h⟩ := h
        obtain ⟨h1, h2⟩ := h
        refine zj_icmp_eq 64 d_Ch_remainder_58 (by decide) r9 ⟨by decide, by decide⟩ (fun k10 => ?_) (fun k10 => ?_)
        · have h := h1 k10
          refine j_aload_n d_Ch_remainder_64 2 rfl ?_
          refine j_iload d_Ch_remainder_65 5 rfl ?_
          refine zj_iald (z σ 72 x5.toNat) d_Ch_remainder_67 (tg_72 hE) (q_okE hE (by decide)) c5 (by decide) (q_z _ _ _) ?_
          refine j_istore_n (L' := [(3, .int (zI (z σ 72 x5.toNat))), (6, .int (zI (zXor (z σ 72 x5.toNat) 1))), (0, .ref 75), (1, .ref 72), (4, .int (zI x4)), (5, .int (zI x5))]) d_Ch_remainder_68 (by decide) rfl ?_
          refine zj_iinc (L' := [(5, .int (zI (x5 + 1))), (3, .int (zI (z σ 72 x5.toNat))), (6, .int (zI (zXor (z σ 72 x5.toNat) 1))), (0, .ref 75), (1, .ref 72), (4, .int (zI x4))]) (x5 + 1) d_Ch_remainder_69 5 rfl (by omega) (by decide) rfl ?_
          refine j_goto 16 d_Ch_remainder_72 (by decide) ?_
          exact j_sel [3, 4, 1, 5, 0] rfl h
        · have h := h2 k10
          refine j_bipush (v := zI (-2)) d_Ch_remainder_61 (by decide) ?_
          exact zj_iret d_Ch_remainder_63 rfl (Nat.zero_le _) (Nat.zero_le _) h
set_option maxHeartbeats 2000000 in
theorem b_Cl_hasNearRoom_0 {ω : q_W} {σ : q_H} {Q : q_R → q_H → Prop} {d mc ms : Nat}   (hE : q_E σ) (h : inR ((z σ 71 3) + 100243) ∧ q_imp (((z σ 71 3) + 100243) ≥ 360000) ((Q (.inl (some (.int (zI 0)))) σ)) ∧ q_imp (((z σ 71 3) + 100243) < 360000) ((Q (.inl (some (.int (zI 1)))) σ))) : J ω m_Cl_hasNearRoom d mc ms 0 0 0 [(0, .ref 71)] [] σ Q := by
  refine j_aload_n d_Cl_hasNearRoom_0 0 rfl ?_
  refine zj_getI (z σ 71 3) f_Cl_22 d_Cl_hasNearRoom_1 (tg_71 hE) (q_okE hE (by decide)) (q_z _ _ _) ?_
  refine j_iconst (v := zI 3) d_Cl_hasNearRoom_4 (by decide) ?_
  refine zj_iadd ((z σ 71 3) + 3) (by omega) d_Cl_hasNearRoom_5 ?_
  refine j_sipush (v := zI 10240) d_Cl_hasNearRoom_6 (by decide) ?_
  refine zj_iadd ((z σ 71 3) + 10243) (by omega) d_Cl_hasNearRoom_9 ?_
  refine j_ldc (v := 90000) k_Cl_32 d_Cl_hasNearRoom_10 ?_
  refine j_topE (v := zI 90000) (by decide) ?_
  refine zj_iadd ((z σ 71 3) + 100243) (by omega) d_Cl_hasNearRoom_12 ?_
  refine j_ldc (v := 360000) k_Cl_9 d_Cl_hasNearRoom_13 ?_
  refine j_topE (v := zI 360000) (by decide) ?_
  obtain ⟨r1, h⟩ := h
  obtain ⟨h1, h2⟩ := h
  refine zj_icmp_ge 22 d_Cl_hasNearRoom_15 (by decide) r1 ⟨by decide, by decide⟩ (fun k2 => ?_) (fun k2 => ?_)
  · have h := h1 k2
    refine j_iconst (v := zI 0) d_Cl_hasNearRoom_22 (by decide) ?_
    exact zj_zret d_Cl_hasNearRoom_23 rfl (by decide) (Nat.zero_le _) (Nat.zero_le _) h
  · have h := h2 k2
    refine j_iconst (v := zI 1) d_Cl_hasNearRoom_18 (by decide) ?_
    refine j_goto 23 d_Cl_hasNearRoom_19 (by decide) ?_
    exact zj_zret d_Cl_hasNearRoom_23 rfl (by decide) (Nat.zero_le _) (Nat.zero_le _) h
set_option maxHeartbeats 2000000 in
theorem b_Cl_allHold_0 {ω : q_W} {σ : q_H} {Q : q_R → q_H → Prop} {d mc ms : Nat}   (hE : q_E σ) (h : (J ω m_Cl_allHold d mc ms 0 0 2 [(0, .ref 71), (1, .ref 78), (2, .int (zI 1))] [] σ Q)) : J ω m_Cl_allHold d mc ms 0 0 0 [(0, .ref 71), (1, .ref 78)] [] σ Q := by
  refine j_iconst (v := zI 1) d_Cl_allHold_0 (by decide) ?_
  refine j_istore_n (L' := [(2, .int (zI 1)), (0, .ref 71), (1, .ref 78)]) d_Cl_allHold_1 (by decide) rfl ?_
  exact j_sel [1, 2, 0] rfl h
set_option maxHeartbeats 2000000 in
theorem b_Cl_allHold_2 {ω : q_W} {σ : q_H} {Q : q_R → q_H → Prop} {d mc ms : Nat} {x2 : Int}  (hE : q_E σ) (h : inR x2 ∧ q_imp (x2 ≥ (z σ 71 3)) ((Q (.inl (some (.int (zI 1)))) σ)) ∧ q_imp (x2 < (z σ 71 3)) ((0 ≤ x2 ∧ x2 < 360000) ∧ (J ω m_Cl_allHold d mc ms 0 0 26 [(0, .ref 71), (1, .ref 78), (3, .int (zI ((x2 + 3) + (z σ 72 x2.toNat)))), (4, .int (zI (x2 + 3)))] [] σ Q))) : J ω m_Cl_allHold d mc ms 0 0 2 [(0, .ref 71), (1, .ref 78), (2, .int (zI x2))] [] σ Q := by
  refine j_iload_n d_Cl_allHold_2 2 rfl ?_
  refine j_aload_n d_Cl_allHold_3 0 rfl ?_
  refine zj_getI (z σ 71 3) f_Cl_22 d_Cl_allHold_4 (tg_71 hE) (q_okE hE (by decide)) (q_z _ _ _) ?_
  obtain ⟨r1, h⟩ := h
  obtain ⟨h1, h2⟩ := h
  refine zj_icmp_ge 64 d_Cl_allHold_7 (by decide) r1 (z_R _ _ _) (fun k2 => ?_) (fun k2 => ?_)
  · have h := h1 k2
    refine j_iconst (v := zI 1) d_Cl_allHold_64 (by decide) ?_
    exact zj_zret d_Cl_allHold_65 rfl (by decide) (Nat.zero_le _) (Nat.zero_le _) h
  · have h := h2 k2
    refine j_iload_n d_Cl_allHold_10 2 rfl ?_
    refine j_iconst (v := zI 3) d_Cl_allHold_11 (by decide) ?_
    refine zj_iadd (x2 + 3) (by omega) d_Cl_allHold_12 ?_
    refine j_aload_n d_Cl_allHold_13 0 rfl ?_
    refine j_getR 72 f_Cl_10 d_Cl_allHold_14 (tg_71 hE) (q_okE hE (by decide)) (rf_71_0 hE) (by decide) ?_
    refine j_iload_n d_Cl_allHold_17 2 rfl ?_
    obtain ⟨c3, h⟩ := h
    refine zj_iald (z σ 72 x2.toNat) d_Cl_allHold_18 (tg_72 hE) (q_okE hE (by decide)) c3 (by decide) (q_z _ _ _) ?_
    refine zj_iadd ((x2 + 3) + (z σ 72 x2.toNat)) rfl d_Cl_allHold_19 ?_
    refine j_istore_n (L' := [(3, .int (zI ((x2 + 3) + (z σ 72 x2.toNat)))), (0, .ref 71), (1, .ref 78), (2, .int (zI x2))]) d_Cl_allHold_20 (by decide) rfl ?_
    refine j_iload_n d_Cl_allHold_21 3 rfl ?_
    refine j_iconst (v := zI 3) d_Cl_allHold_22 (by decide) ?_
    refine zj_iadd (x2 + 3) (by omega) d_Cl_allHold_23 ?_
    refine j_istore (L' := [(4, .int (zI (x2 + 3))), (3, .int (zI ((x2 + 3) + (z σ 72 x2.toNat)))), (0, .ref 71), (1, .ref 78), (2, .int (zI x2))]) d_Cl_allHold_24 (by decide) rfl ?_
    exact j_sel [2, 3, 1, 0] rfl h
set_option maxHeartbeats 2000000 in
theorem b_Cl_allHold_26 {ω : q_W} {σ : q_H} {Q : q_R → q_H → Prop} {d mc ms : Nat} {x3 : Int} {x4 : Int}  (hE : q_E σ) (h : inR x4 ∧ inR x3 ∧ q_imp (x4 ≥ x3) ((J ω m_Cl_allHold d mc ms 0 0 51 [(0, .ref 71), (1, .ref 78), (3, .int (zI x3)), (4, .int (zI x4))] [] σ Q)) ∧ q_imp (x4 < x3) ((0 ≤ x4 ∧ x4 < 360000) ∧ (0 ≤ (z σ 72 x4.toNat) ∧ (z σ 72 x4.toNat) < 20480) ∧ q_imp ((z σ 78 (z σ 72 x4.toNat).toNat) = 1) ((J ω m_Cl_allHold d mc ms 0 0 51 [(0, .ref 71), (1, .ref 78), (3, .int (zI x3)), (4, .int (zI x4))] [] σ Q)) ∧ q_imp ((z σ 78 (z σ 72 x4.toNat).toNat) ≠ 1) ((J ω m_Cl_allHold d mc ms 0 0 26 [(0, .ref 71), (1, .ref 78), (3, .int (zI x3)), (4, .int (zI (x4 + 1)))] [] σ Q)))) : J ω m_Cl_allHold d mc ms 0 0 26 [(0, .ref 71), (1, .ref 78), (3, .int (zI x3)), (4, .int (zI x4))] [] σ Q := by
  refine j_iload d_Cl_allHold_26 3 rfl ?_
  refine j_iload_n d_Cl_allHold_28 2 rfl ?_
  obtain ⟨r4, h⟩ := h
  obtain ⟨r5, h⟩ := h
  obtain ⟨h1, h2⟩ := h
  refine zj_icmp_ge 51 d_Cl_allHold_29 (by decide) r4 r5 (fun k6 => ?_) (fun k6 => ?_)
  · have h := h1 k6
    exact j_sel [0, 1, 2, 3] rfl h
  · have h := h2 k6
    refine j_aload_n d_Cl_allHold_32 1 rfl ?_
    refine j_aload_n d_Cl_allHold_33 0 rfl ?_
    refine j_getR 72 f_Cl_10 d_Cl_allHold_34 (tg_71 hE) (q_okE hE (by decide)) (rf_71_0 hE) (by decide) ?_
    refine j_iload d_Cl_allHold_37 3 rfl ?_
    obtain ⟨c7, h⟩ := h
    refine zj_iald (z σ 72 x4.toNat) d_Cl_allHold_39 (tg_72 hE) (q_okE hE (by decide)) c7 (by decide) (q_z _ _ _) ?_
    obtain ⟨c8, h⟩ := h
    refine zj_iald (z σ 78 (z σ 72 x4.toNat).toNat) d_Cl_allHold_40 (tg_78 hE) (q_okE hE (by decide)) c8 (by decide) (q_z _ _ _) ?_
    refine j_iconst (v := zI 1) d_Cl_allHold_41 (by decide) ?_
    obtain ⟨h1, h2⟩ := h
    refine zj_icmp_eq 51 d_Cl_allHold_42 (by decide) (z_R _ _ _) ⟨by decide, by decide⟩ (fun k9 => ?_) (fun k9 => ?_)
    · have h := h1 k9
      exact j_sel [0, 1, 2, 3] rfl h
    · have h := h2 k9
      refine zj_iinc (L' := [(4, .int (zI (x4 + 1))), (0, .ref 71), (1, .ref 78), (3, .int (zI x3))]) (x4 + 1) d_Cl_allHold_45 3 rfl (by omega) (by decide) rfl ?_
      refine j_goto 26 d_Cl_allHold_48 (by decide) ?_
      exact j_sel [1, 2, 3, 0] rfl h
set_option maxHeartbeats 2000000 in
theorem b_Cl_allHold_51 {ω : q_W} {σ : q_H} {Q : q_R → q_H → Prop} {d mc ms : Nat} {x3 : Int} {x4 : Int}  (hE : q_E σ) (h : inR x4 ∧ inR x3 ∧ q_imp (x4 ≠ x3) ((J ω m_Cl_allHold d mc ms 0 0 2 [(0, .ref 71), (1, .ref 78), (2, .int (zI x3))] [] σ Q)) ∧ q_imp (x4 = x3) ((Q (.inl (some (.int (zI 0)))) σ))) : J ω m_Cl_allHold d mc ms 0 0 51 [(0, .ref 71), (1, .ref 78), (3, .int (zI x3)), (4, .int (zI x4))] [] σ Q := by
  refine j_iload d_Cl_allHold_51 3 rfl ?_
  refine j_iload_n d_Cl_allHold_53 2 rfl ?_
  obtain ⟨r10, h⟩ := h
  obtain ⟨r11, h⟩ := h
  obtain ⟨h1, h2⟩ := h
  refine zj_icmp_ne 59 d_Cl_allHold_54 (by decide) r10 r11 (fun k12 => ?_) (fun k12 => ?_)
  · have h := h1 k12
    refine j_iload_n d_Cl_allHold_59 2 rfl ?_
    refine j_istore_n (L' := [(2, .int (zI x3)), (0, .ref 71), (1, .ref 78), (3, .int (zI x3)), (4, .int (zI x4))]) d_Cl_allHold_60 (by decide) rfl ?_
    refine j_goto 2 d_Cl_allHold_61 (by decide) ?_
    exact j_sel [1, 2, 0] rfl h
  · have h := h2 k12
    refine j_iconst (v := zI 0) d_Cl_allHold_57 (by decide) ?_
    exact zj_zret d_Cl_allHold_58 rfl (by decide) (Nat.zero_le _) (Nat.zero_le _) h
