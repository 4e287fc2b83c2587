/-! stretches of bytecode as conditions: M -/
theorem d_M_look_0 : decode m_M_look.2.1 0 = .ok (.iload_n 1, 1) := by decide +kernel
theorem d_M_look_1 : decode m_M_look.2.1 1 = .ok (.aload_n 0, 1) := by decide +kernel
theorem d_M_look_2 : decode m_M_look.2.1 2 = .ok (.getfield 144, 3) := by decide +kernel
theorem d_M_look_5 : decode m_M_look.2.1 5 = .ok (.if_icmp .ge 16, 3) := by decide +kernel
theorem d_M_look_8 : decode m_M_look.2.1 8 = .ok (.aload_n 0, 1) := by decide +kernel
theorem d_M_look_9 : decode m_M_look.2.1 9 = .ok (.getfield 7, 3) := by decide +kernel
theorem d_M_look_12 : decode m_M_look.2.1 12 = .ok (.iload_n 1, 1) := by decide +kernel
theorem d_M_look_13 : decode m_M_look.2.1 13 = .ok (.baload, 1) := by decide +kernel
theorem d_M_look_14 : decode m_M_look.2.1 14 = .ok (.sipush 255, 3) := by decide +kernel
theorem d_M_look_17 : decode m_M_look.2.1 17 = .ok (.iand, 1) := by decide +kernel
theorem d_M_look_18 : decode m_M_look.2.1 18 = .ok (.goto 4, 3) := by decide +kernel
theorem d_M_look_21 : decode m_M_look.2.1 21 = .ok (.iconst (-1), 1) := by decide +kernel
theorem d_M_look_22 : decode m_M_look.2.1 22 = .ok (.ireturn, 1) := by decide +kernel
theorem d_M_word_0 : decode m_M_word.2.1 0 = .ok (.lload_n 1, 1) := by decide +kernel
theorem d_M_word_1 : decode m_M_word.2.1 1 = .ok (.ldc 168, 2) := by decide +kernel
theorem d_M_word_3 : decode m_M_word.2.1 3 = .ok (.invokestatic 170, 3) := by decide +kernel
theorem d_M_word_6 : decode m_M_word.2.1 6 = .ok (.lcmp, 1) := by decide +kernel
theorem d_M_word_7 : decode m_M_word.2.1 7 = .ok (.ifCond .ne 7, 3) := by decide +kernel
theorem d_M_word_10 : decode m_M_word.2.1 10 = .ok (.sipush 256, 3) := by decide +kernel
theorem d_M_word_13 : decode m_M_word.2.1 13 = .ok (.ireturn, 1) := by decide +kernel
theorem d_M_word_14 : decode m_M_word.2.1 14 = .ok (.lload_n 1, 1) := by decide +kernel
theorem d_M_word_15 : decode m_M_word.2.1 15 = .ok (.ldc 174, 2) := by decide +kernel
theorem d_M_word_17 : decode m_M_word.2.1 17 = .ok (.invokestatic 170, 3) := by decide +kernel
theorem d_M_word_20 : decode m_M_word.2.1 20 = .ok (.lcmp, 1) := by decide +kernel
theorem d_M_word_21 : decode m_M_word.2.1 21 = .ok (.ifCond .ne 7, 3) := by decide +kernel
theorem d_M_word_24 : decode m_M_word.2.1 24 = .ok (.sipush 257, 3) := by decide +kernel
theorem d_M_word_27 : decode m_M_word.2.1 27 = .ok (.ireturn, 1) := by decide +kernel
theorem d_M_word_28 : decode m_M_word.2.1 28 = .ok (.lload_n 1, 1) := by decide +kernel
theorem d_M_word_29 : decode m_M_word.2.1 29 = .ok (.ldc 176, 2) := by decide +kernel
theorem d_M_word_31 : decode m_M_word.2.1 31 = .ok (.invokestatic 170, 3) := by decide +kernel
theorem d_M_word_34 : decode m_M_word.2.1 34 = .ok (.lcmp, 1) := by decide +kernel
theorem d_M_word_35 : decode m_M_word.2.1 35 = .ok (.ifCond .ne 7, 3) := by decide +kernel
theorem d_M_word_38 : decode m_M_word.2.1 38 = .ok (.sipush 258, 3) := by decide +kernel
theorem d_M_word_41 : decode m_M_word.2.1 41 = .ok (.ireturn, 1) := by decide +kernel
theorem d_M_word_42 : decode m_M_word.2.1 42 = .ok (.lload_n 1, 1) := by decide +kernel
theorem d_M_word_43 : decode m_M_word.2.1 43 = .ok (.ldc 178, 2) := by decide +kernel
theorem d_M_word_45 : decode m_M_word.2.1 45 = .ok (.invokestatic 170, 3) := by decide +kernel
theorem d_M_word_48 : decode m_M_word.2.1 48 = .ok (.lcmp, 1) := by decide +kernel
theorem d_M_word_49 : decode m_M_word.2.1 49 = .ok (.ifCond .ne 7, 3) := by decide +kernel
theorem d_M_word_52 : decode m_M_word.2.1 52 = .ok (.sipush 259, 3) := by decide +kernel
theorem d_M_word_55 : decode m_M_word.2.1 55 = .ok (.ireturn, 1) := by decide +kernel
theorem d_M_word_56 : decode m_M_word.2.1 56 = .ok (.lload_n 1, 1) := by decide +kernel
theorem d_M_word_57 : decode m_M_word.2.1 57 = .ok (.ldc 180, 2) := by decide +kernel
theorem d_M_word_59 : decode m_M_word.2.1 59 = .ok (.invokestatic 170, 3) := by decide +kernel
theorem d_M_word_62 : decode m_M_word.2.1 62 = .ok (.lcmp, 1) := by decide +kernel
theorem d_M_word_63 : decode m_M_word.2.1 63 = .ok (.ifCond .ne 7, 3) := by decide +kernel
theorem d_M_word_66 : decode m_M_word.2.1 66 = .ok (.sipush 260, 3) := by decide +kernel
theorem d_M_word_69 : decode m_M_word.2.1 69 = .ok (.ireturn, 1) := by decide +kernel
theorem d_M_word_70 : decode m_M_word.2.1 70 = .ok (.lload_n 1, 1) := by decide +kernel
theorem d_M_word_71 : decode m_M_word.2.1 71 = .ok (.ldc 182, 2) := by decide +kernel
theorem d_M_word_73 : decode m_M_word.2.1 73 = .ok (.invokestatic 170, 3) := by decide +kernel
theorem d_M_word_76 : decode m_M_word.2.1 76 = .ok (.lcmp, 1) := by decide +kernel
theorem d_M_word_77 : decode m_M_word.2.1 77 = .ok (.ifCond .ne 7, 3) := by decide +kernel
theorem d_M_word_80 : decode m_M_word.2.1 80 = .ok (.sipush 261, 3) := by decide +kernel
theorem d_M_word_83 : decode m_M_word.2.1 83 = .ok (.ireturn, 1) := by decide +kernel
theorem d_M_word_84 : decode m_M_word.2.1 84 = .ok (.lload_n 1, 1) := by decide +kernel
theorem d_M_word_85 : decode m_M_word.2.1 85 = .ok (.ldc 184, 2) := by decide +kernel
theorem d_M_word_87 : decode m_M_word.2.1 87 = .ok (.invokestatic 170, 3) := by decide +kernel
theorem d_M_word_90 : decode m_M_word.2.1 90 = .ok (.lcmp, 1) := by decide +kernel
theorem d_M_word_91 : decode m_M_word.2.1 91 = .ok (.ifCond .ne 7, 3) := by decide +kernel
theorem d_M_word_94 : decode m_M_word.2.1 94 = .ok (.sipush 262, 3) := by decide +kernel
theorem d_M_word_97 : decode m_M_word.2.1 97 = .ok (.ireturn, 1) := by decide +kernel
theorem d_M_word_98 : decode m_M_word.2.1 98 = .ok (.sipush 263, 3) := by decide +kernel
theorem d_M_word_101 : decode m_M_word.2.1 101 = .ok (.ireturn, 1) := by decide +kernel
theorem d_M_pair_0 : decode m_M_pair.2.1 0 = .ok (.iload_n 0, 1) := by decide +kernel
theorem d_M_pair_1 : decode m_M_pair.2.1 1 = .ok (.bipush 61, 2) := by decide +kernel
theorem d_M_pair_3 : decode m_M_pair.2.1 3 = .ok (.if_icmp .ne 13, 3) := by decide +kernel
theorem d_M_pair_6 : decode m_M_pair.2.1 6 = .ok (.iload_n 1, 1) := by decide +kernel
theorem d_M_pair_7 : decode m_M_pair.2.1 7 = .ok (.bipush 61, 2) := by decide +kernel
theorem d_M_pair_9 : decode m_M_pair.2.1 9 = .ok (.if_icmp .ne 7, 3) := by decide +kernel
theorem d_M_pair_12 : decode m_M_pair.2.1 12 = .ok (.sipush 265, 3) := by decide +kernel
theorem d_M_pair_15 : decode m_M_pair.2.1 15 = .ok (.ireturn, 1) := by decide +kernel
theorem d_M_pair_16 : decode m_M_pair.2.1 16 = .ok (.iload_n 0, 1) := by decide +kernel
theorem d_M_pair_17 : decode m_M_pair.2.1 17 = .ok (.bipush 33, 2) := by decide +kernel
theorem d_M_pair_19 : decode m_M_pair.2.1 19 = .ok (.if_icmp .ne 13, 3) := by decide +kernel
theorem d_M_pair_22 : decode m_M_pair.2.1 22 = .ok (.iload_n 1, 1) := by decide +kernel
theorem d_M_pair_23 : decode m_M_pair.2.1 23 = .ok (.bipush 61, 2) := by decide +kernel
theorem d_M_pair_25 : decode m_M_pair.2.1 25 = .ok (.if_icmp .ne 7, 3) := by decide +kernel
theorem d_M_pair_28 : decode m_M_pair.2.1 28 = .ok (.sipush 266, 3) := by decide +kernel
theorem d_M_pair_31 : decode m_M_pair.2.1 31 = .ok (.ireturn, 1) := by decide +kernel
theorem d_M_pair_32 : decode m_M_pair.2.1 32 = .ok (.iload_n 0, 1) := by decide +kernel
theorem d_M_pair_33 : decode m_M_pair.2.1 33 = .ok (.bipush 60, 2) := by decide +kernel
theorem d_M_pair_35 : decode m_M_pair.2.1 35 = .ok (.if_icmp .ne 13, 3) := by decide +kernel
theorem d_M_pair_38 : decode m_M_pair.2.1 38 = .ok (.iload_n 1, 1) := by decide +kernel
theorem d_M_pair_39 : decode m_M_pair.2.1 39 = .ok (.bipush 61, 2) := by decide +kernel
theorem d_M_pair_41 : decode m_M_pair.2.1 41 = .ok (.if_icmp .ne 7, 3) := by decide +kernel
theorem d_M_pair_44 : decode m_M_pair.2.1 44 = .ok (.sipush 267, 3) := by decide +kernel
theorem d_M_pair_47 : decode m_M_pair.2.1 47 = .ok (.ireturn, 1) := by decide +kernel
theorem d_M_pair_48 : decode m_M_pair.2.1 48 = .ok (.iload_n 0, 1) := by decide +kernel
theorem d_M_pair_49 : decode m_M_pair.2.1 49 = .ok (.bipush 62, 2) := by decide +kernel
theorem d_M_pair_51 : decode m_M_pair.2.1 51 = .ok (.if_icmp .ne 13, 3) := by decide +kernel
theorem d_M_pair_54 : decode m_M_pair.2.1 54 = .ok (.iload_n 1, 1) := by decide +kernel
theorem d_M_pair_55 : decode m_M_pair.2.1 55 = .ok (.bipush 61, 2) := by decide +kernel
theorem d_M_pair_57 : decode m_M_pair.2.1 57 = .ok (.if_icmp .ne 7, 3) := by decide +kernel
theorem d_M_pair_60 : decode m_M_pair.2.1 60 = .ok (.sipush 268, 3) := by decide +kernel
theorem d_M_pair_63 : decode m_M_pair.2.1 63 = .ok (.ireturn, 1) := by decide +kernel
theorem d_M_pair_64 : decode m_M_pair.2.1 64 = .ok (.iload_n 0, 1) := by decide +kernel
theorem d_M_pair_65 : decode m_M_pair.2.1 65 = .ok (.bipush 60, 2) := by decide +kernel
theorem d_M_pair_67 : decode m_M_pair.2.1 67 = .ok (.if_icmp .ne 13, 3) := by decide +kernel
theorem d_M_pair_70 : decode m_M_pair.2.1 70 = .ok (.iload_n 1, 1) := by decide +kernel
theorem d_M_pair_71 : decode m_M_pair.2.1 71 = .ok (.bipush 60, 2) := by decide +kernel
theorem d_M_pair_73 : decode m_M_pair.2.1 73 = .ok (.if_icmp .ne 7, 3) := by decide +kernel
theorem d_M_pair_76 : decode m_M_pair.2.1 76 = .ok (.sipush 269, 3) := by decide +kernel
theorem d_M_pair_79 : decode m_M_pair.2.1 79 = .ok (.ireturn, 1) := by decide +kernel
theorem d_M_pair_80 : decode m_M_pair.2.1 80 = .ok (.iload_n 0, 1) := by decide +kernel
theorem d_M_pair_81 : decode m_M_pair.2.1 81 = .ok (.bipush 62, 2) := by decide +kernel
theorem d_M_pair_83 : decode m_M_pair.2.1 83 = .ok (.if_icmp .ne 13, 3) := by decide +kernel
theorem d_M_pair_86 : decode m_M_pair.2.1 86 = .ok (.iload_n 1, 1) := by decide +kernel
theorem d_M_pair_87 : decode m_M_pair.2.1 87 = .ok (.bipush 62, 2) := by decide +kernel
theorem d_M_pair_89 : decode m_M_pair.2.1 89 = .ok (.if_icmp .ne 7, 3) := by decide +kernel
theorem d_M_pair_92 : decode m_M_pair.2.1 92 = .ok (.sipush 270, 3) := by decide +kernel
theorem d_M_pair_95 : decode m_M_pair.2.1 95 = .ok (.ireturn, 1) := by decide +kernel
theorem d_M_pair_96 : decode m_M_pair.2.1 96 = .ok (.iload_n 0, 1) := by decide +kernel
theorem d_M_pair_97 : decode m_M_pair.2.1 97 = .ok (.bipush 38, 2) := by decide +kernel
theorem d_M_pair_99 : decode m_M_pair.2.1 99 = .ok (.if_icmp .ne 13, 3) := by decide +kernel
theorem d_M_pair_102 : decode m_M_pair.2.1 102 = .ok (.iload_n 1, 1) := by decide +kernel
theorem d_M_pair_103 : decode m_M_pair.2.1 103 = .ok (.bipush 38, 2) := by decide +kernel
theorem d_M_pair_105 : decode m_M_pair.2.1 105 = .ok (.if_icmp .ne 7, 3) := by decide +kernel
theorem d_M_pair_108 : decode m_M_pair.2.1 108 = .ok (.sipush 271, 3) := by decide +kernel
theorem d_M_pair_111 : decode m_M_pair.2.1 111 = .ok (.ireturn, 1) := by decide +kernel
theorem d_M_pair_112 : decode m_M_pair.2.1 112 = .ok (.iload_n 0, 1) := by decide +kernel
theorem d_M_pair_113 : decode m_M_pair.2.1 113 = .ok (.bipush 124, 2) := by decide +kernel
theorem d_M_pair_115 : decode m_M_pair.2.1 115 = .ok (.if_icmp .ne 15, 3) := by decide +kernel
theorem d_M_pair_118 : decode m_M_pair.2.1 118 = .ok (.iload_n 1, 1) := by decide +kernel
theorem d_M_pair_119 : decode m_M_pair.2.1 119 = .ok (.bipush 124, 2) := by decide +kernel
theorem d_M_pair_121 : decode m_M_pair.2.1 121 = .ok (.if_icmp .ne 9, 3) := by decide +kernel
theorem d_M_pair_124 : decode m_M_pair.2.1 124 = .ok (.sipush 272, 3) := by decide +kernel
theorem d_M_pair_127 : decode m_M_pair.2.1 127 = .ok (.goto 4, 3) := by decide +kernel
theorem d_M_pair_130 : decode m_M_pair.2.1 130 = .ok (.iconst 0, 1) := by decide +kernel
theorem d_M_pair_131 : decode m_M_pair.2.1 131 = .ok (.ireturn, 1) := by decide +kernel
theorem d_M_wholeProgram_65 : decode m_M_wholeProgram.2.1 65 = .ok (.aload_n 0, 1) := by decide +kernel
theorem d_M_wholeProgram_66 : decode m_M_wholeProgram.2.1 66 = .ok (.invokevirtual 327, 3) := by decide +kernel
theorem d_M_wholeProgram_69 : decode m_M_wholeProgram.2.1 69 = .ok (.goto (-24), 3) := by decide +kernel
theorem d_M_wholeProgram_86 : decode m_M_wholeProgram.2.1 86 = .ok (.aload_n 0, 1) := by decide +kernel
theorem d_M_wholeProgram_87 : decode m_M_wholeProgram.2.1 87 = .ok (.invokevirtual 277, 3) := by decide +kernel
theorem d_M_wholeProgram_90 : decode m_M_wholeProgram.2.1 90 = .ok (.istore_n 3, 1) := by decide +kernel
theorem d_M_wholeProgram_91 : decode m_M_wholeProgram.2.1 91 = .ok (.iload_n 2, 1) := by decide +kernel
theorem d_M_wholeProgram_92 : decode m_M_wholeProgram.2.1 92 = .ok (.ifCond .ge 8, 3) := by decide +kernel
theorem d_M_wholeProgram_95 : decode m_M_wholeProgram.2.1 95 = .ok (.iload_n 3, 1) := by decide +kernel
theorem d_M_wholeProgram_96 : decode m_M_wholeProgram.2.1 96 = .ok (.istore_n 1, 1) := by decide +kernel
theorem d_M_wholeProgram_97 : decode m_M_wholeProgram.2.1 97 = .ok (.goto 10, 3) := by decide +kernel
theorem d_M_wholeProgram_100 : decode m_M_wholeProgram.2.1 100 = .ok (.aload_n 0, 1) := by decide +kernel
theorem d_M_wholeProgram_101 : decode m_M_wholeProgram.2.1 101 = .ok (.getfield 73, 3) := by decide +kernel
theorem d_M_wholeProgram_104 : decode m_M_wholeProgram.2.1 104 = .ok (.iload_n 2, 1) := by decide +kernel
theorem d_M_wholeProgram_105 : decode m_M_wholeProgram.2.1 105 = .ok (.iload_n 3, 1) := by decide +kernel
theorem d_M_wholeProgram_106 : decode m_M_wholeProgram.2.1 106 = .ok (.iastore, 1) := by decide +kernel
theorem d_M_wholeProgram_107 : decode m_M_wholeProgram.2.1 107 = .ok (.iload_n 3, 1) := by decide +kernel
theorem d_M_wholeProgram_108 : decode m_M_wholeProgram.2.1 108 = .ok (.istore_n 2, 1) := by decide +kernel
theorem d_M_wholeProgram_109 : decode m_M_wholeProgram.2.1 109 = .ok (.goto (-33), 3) := by decide +kernel
theorem d_M_declaration_0 : decode m_M_declaration.2.1 0 = .ok (.aload_n 0, 1) := by decide +kernel
theorem d_M_declaration_1 : decode m_M_declaration.2.1 1 = .ok (.invokevirtual 227, 3) := by decide +kernel
theorem d_M_declaration_4 : decode m_M_declaration.2.1 4 = .ok (.sipush 256, 3) := by decide +kernel
theorem d_M_declaration_7 : decode m_M_declaration.2.1 7 = .ok (.if_icmp .ne 7, 3) := by decide +kernel
theorem d_M_declaration_10 : decode m_M_declaration.2.1 10 = .ok (.iconst 1, 1) := by decide +kernel
theorem d_M_declaration_11 : decode m_M_declaration.2.1 11 = .ok (.goto 4, 3) := by decide +kernel
theorem d_M_declaration_14 : decode m_M_declaration.2.1 14 = .ok (.iconst 0, 1) := by decide +kernel
theorem d_M_declaration_15 : decode m_M_declaration.2.1 15 = .ok (.istore_n 1, 1) := by decide +kernel
theorem d_M_declaration_16 : decode m_M_declaration.2.1 16 = .ok (.aload_n 0, 1) := by decide +kernel
theorem d_M_declaration_17 : decode m_M_declaration.2.1 17 = .ok (.invokevirtual 234, 3) := by decide +kernel
theorem d_M_declaration_20 : decode m_M_declaration.2.1 20 = .ok (.istore_n 2, 1) := by decide +kernel
theorem d_M_declaration_21 : decode m_M_declaration.2.1 21 = .ok (.aload_n 0, 1) := by decide +kernel
theorem d_M_declaration_22 : decode m_M_declaration.2.1 22 = .ok (.sipush 263, 3) := by decide +kernel
theorem d_M_declaration_25 : decode m_M_declaration.2.1 25 = .ok (.invokevirtual 249, 3) := by decide +kernel
theorem d_M_declaration_28 : decode m_M_declaration.2.1 28 = .ok (.istore_n 3, 1) := by decide +kernel
theorem d_M_declaration_29 : decode m_M_declaration.2.1 29 = .ok (.aload_n 0, 1) := by decide +kernel
theorem d_M_declaration_30 : decode m_M_declaration.2.1 30 = .ok (.bipush 58, 2) := by decide +kernel
theorem d_M_declaration_32 : decode m_M_declaration.2.1 32 = .ok (.invokevirtual 249, 3) := by decide +kernel
theorem d_M_declaration_35 : decode m_M_declaration.2.1 35 = .ok (.istore_n 2, 1) := by decide +kernel
theorem d_M_declaration_36 : decode m_M_declaration.2.1 36 = .ok (.aload_n 0, 1) := by decide +kernel
theorem d_M_declaration_37 : decode m_M_declaration.2.1 37 = .ok (.sipush 264, 3) := by decide +kernel
theorem d_M_declaration_40 : decode m_M_declaration.2.1 40 = .ok (.invokevirtual 249, 3) := by decide +kernel
theorem d_M_declaration_43 : decode m_M_declaration.2.1 43 = .ok (.istore 4, 2) := by decide +kernel
theorem d_M_declaration_45 : decode m_M_declaration.2.1 45 = .ok (.aload_n 0, 1) := by decide +kernel
theorem d_M_declaration_46 : decode m_M_declaration.2.1 46 = .ok (.bipush 59, 2) := by decide +kernel
theorem d_M_declaration_48 : decode m_M_declaration.2.1 48 = .ok (.invokevirtual 249, 3) := by decide +kernel
theorem d_M_declaration_51 : decode m_M_declaration.2.1 51 = .ok (.istore_n 2, 1) := by decide +kernel
theorem d_M_declaration_52 : decode m_M_declaration.2.1 52 = .ok (.aload_n 0, 1) := by decide +kernel
theorem d_M_declaration_53 : decode m_M_declaration.2.1 53 = .ok (.aload_n 0, 1) := by decide +kernel
theorem d_M_declaration_54 : decode m_M_declaration.2.1 54 = .ok (.getfield 23, 3) := by decide +kernel
theorem d_M_declaration_57 : decode m_M_declaration.2.1 57 = .ok (.iload_n 3, 1) := by decide +kernel
theorem d_M_declaration_58 : decode m_M_declaration.2.1 58 = .ok (.laload, 1) := by decide +kernel
theorem d_M_declaration_59 : decode m_M_declaration.2.1 59 = .ok (.invokevirtual 252, 3) := by decide +kernel
theorem d_M_declaration_62 : decode m_M_declaration.2.1 62 = .ok (.ifCond .lt 7, 3) := by decide +kernel
theorem d_M_declaration_65 : decode m_M_declaration.2.1 65 = .ok (.iconst 1, 1) := by decide +kernel
theorem d_M_declaration_66 : decode m_M_declaration.2.1 66 = .ok (.goto 4, 3) := by decide +kernel
theorem d_M_declaration_69 : decode m_M_declaration.2.1 69 = .ok (.iconst 0, 1) := by decide +kernel
theorem d_M_declaration_70 : decode m_M_declaration.2.1 70 = .ok (.istore 5, 2) := by decide +kernel
theorem d_M_declaration_72 : decode m_M_declaration.2.1 72 = .ok (.aload_n 0, 1) := by decide +kernel
theorem d_M_declaration_73 : decode m_M_declaration.2.1 73 = .ok (.getfield 20, 3) := by decide +kernel
theorem d_M_declaration_76 : decode m_M_declaration.2.1 76 = .ok (.iload 4, 2) := by decide +kernel
theorem d_M_declaration_78 : decode m_M_declaration.2.1 78 = .ok (.iaload, 1) := by decide +kernel
theorem d_M_declaration_79 : decode m_M_declaration.2.1 79 = .ok (.iconst 1, 1) := by decide +kernel
theorem d_M_declaration_80 : decode m_M_declaration.2.1 80 = .ok (.if_icmp .lt 19, 3) := by decide +kernel
theorem d_M_declaration_83 : decode m_M_declaration.2.1 83 = .ok (.aload_n 0, 1) := by decide +kernel
theorem d_M_declaration_84 : decode m_M_declaration.2.1 84 = .ok (.getfield 20, 3) := by decide +kernel
theorem d_M_declaration_87 : decode m_M_declaration.2.1 87 = .ok (.iload 4, 2) := by decide +kernel
theorem d_M_declaration_89 : decode m_M_declaration.2.1 89 = .ok (.iaload, 1) := by decide +kernel
theorem d_M_declaration_90 : decode m_M_declaration.2.1 90 = .ok (.bipush 8, 2) := by decide +kernel
theorem d_M_declaration_92 : decode m_M_declaration.2.1 92 = .ok (.if_icmp .gt 7, 3) := by decide +kernel
theorem d_M_declaration_95 : decode m_M_declaration.2.1 95 = .ok (.iconst 1, 1) := by decide +kernel
theorem d_M_declaration_96 : decode m_M_declaration.2.1 96 = .ok (.goto 4, 3) := by decide +kernel
theorem d_M_declaration_99 : decode m_M_declaration.2.1 99 = .ok (.iconst 0, 1) := by decide +kernel
theorem d_M_declaration_100 : decode m_M_declaration.2.1 100 = .ok (.istore 6, 2) := by decide +kernel
theorem d_M_declaration_102 : decode m_M_declaration.2.1 102 = .ok (.iload 5, 2) := by decide +kernel
theorem d_M_declaration_104 : decode m_M_declaration.2.1 104 = .ok (.ifCond .eq 9, 3) := by decide +kernel
theorem d_M_declaration_107 : decode m_M_declaration.2.1 107 = .ok (.aload_n 0, 1) := by decide +kernel
theorem d_M_declaration_108 : decode m_M_declaration.2.1 108 = .ok (.iconst 3, 1) := by decide +kernel
theorem d_M_declaration_109 : decode m_M_declaration.2.1 109 = .ok (.iload_n 3, 1) := by decide +kernel
theorem d_M_declaration_110 : decode m_M_declaration.2.1 110 = .ok (.invokevirtual 255, 3) := by decide +kernel
theorem d_M_declaration_113 : decode m_M_declaration.2.1 113 = .ok (.iload 6, 2) := by decide +kernel
theorem d_M_declaration_115 : decode m_M_declaration.2.1 115 = .ok (.ifCond .ne 10, 3) := by decide +kernel
theorem d_M_declaration_118 : decode m_M_declaration.2.1 118 = .ok (.aload_n 0, 1) := by decide +kernel
theorem d_M_declaration_119 : decode m_M_declaration.2.1 119 = .ok (.iconst 5, 1) := by decide +kernel
theorem d_M_declaration_120 : decode m_M_declaration.2.1 120 = .ok (.iload 4, 2) := by decide +kernel
theorem d_M_declaration_122 : decode m_M_declaration.2.1 122 = .ok (.invokevirtual 255, 3) := by decide +kernel
theorem d_M_declaration_125 : decode m_M_declaration.2.1 125 = .ok (.iload 5, 2) := by decide +kernel
theorem d_M_declaration_127 : decode m_M_declaration.2.1 127 = .ok (.ifCond .ne 8, 3) := by decide +kernel
theorem d_M_declaration_130 : decode m_M_declaration.2.1 130 = .ok (.iload 6, 2) := by decide +kernel
theorem d_M_declaration_132 : decode m_M_declaration.2.1 132 = .ok (.ifCond .ne 4, 3) := by decide +kernel
theorem d_M_declaration_135 : decode m_M_declaration.2.1 135 = .ok (.return_, 1) := by decide +kernel
theorem d_M_declaration_136 : decode m_M_declaration.2.1 136 = .ok (.iload_n 1, 1) := by decide +kernel
theorem d_M_declaration_137 : decode m_M_declaration.2.1 137 = .ok (.ifCond .eq 23, 3) := by decide +kernel
theorem d_M_declaration_140 : decode m_M_declaration.2.1 140 = .ok (.aload_n 0, 1) := by decide +kernel
theorem d_M_declaration_141 : decode m_M_declaration.2.1 141 = .ok (.getfield 258, 3) := by decide +kernel
theorem d_M_declaration_144 : decode m_M_declaration.2.1 144 = .ok (.aload_n 0, 1) := by decide +kernel
theorem d_M_declaration_145 : decode m_M_declaration.2.1 145 = .ok (.getfield 20, 3) := by decide +kernel
theorem d_M_declaration_148 : decode m_M_declaration.2.1 148 = .ok (.iload 4, 2) := by decide +kernel
theorem d_M_declaration_150 : decode m_M_declaration.2.1 150 = .ok (.iaload, 1) := by decide +kernel
theorem d_M_declaration_151 : decode m_M_declaration.2.1 151 = .ok (.iadd, 1) := by decide +kernel
theorem d_M_declaration_152 : decode m_M_declaration.2.1 152 = .ok (.bipush 12, 2) := by decide +kernel
theorem d_M_declaration_154 : decode m_M_declaration.2.1 154 = .ok (.if_icmp .le 23, 3) := by decide +kernel
theorem d_M_declaration_157 : decode m_M_declaration.2.1 157 = .ok (.goto 12, 3) := by decide +kernel
theorem d_M_declaration_160 : decode m_M_declaration.2.1 160 = .ok (.aload_n 0, 1) := by decide +kernel
theorem d_M_declaration_161 : decode m_M_declaration.2.1 161 = .ok (.getfield 261, 3) := by decide +kernel
theorem d_M_declaration_164 : decode m_M_declaration.2.1 164 = .ok (.bipush 12, 2) := by decide +kernel
theorem d_M_declaration_166 : decode m_M_declaration.2.1 166 = .ok (.if_icmp .ne 11, 3) := by decide +kernel
theorem d_M_declaration_169 : decode m_M_declaration.2.1 169 = .ok (.aload_n 0, 1) := by decide +kernel
theorem d_M_declaration_170 : decode m_M_declaration.2.1 170 = .ok (.bipush 6, 2) := by decide +kernel
theorem d_M_declaration_172 : decode m_M_declaration.2.1 172 = .ok (.iload_n 3, 1) := by decide +kernel
theorem d_M_declaration_173 : decode m_M_declaration.2.1 173 = .ok (.invokevirtual 255, 3) := by decide +kernel
theorem d_M_declaration_176 : decode m_M_declaration.2.1 176 = .ok (.return_, 1) := by decide +kernel
theorem d_M_declaration_177 : decode m_M_declaration.2.1 177 = .ok (.aload_n 0, 1) := by decide +kernel
theorem d_M_declaration_178 : decode m_M_declaration.2.1 178 = .ok (.getfield 37, 3) := by decide +kernel
theorem d_M_declaration_181 : decode m_M_declaration.2.1 181 = .ok (.aload_n 0, 1) := by decide +kernel
theorem d_M_declaration_182 : decode m_M_declaration.2.1 182 = .ok (.getfield 246, 3) := by decide +kernel
theorem d_M_declaration_185 : decode m_M_declaration.2.1 185 = .ok (.aload_n 0, 1) := by decide +kernel
theorem d_M_declaration_186 : decode m_M_declaration.2.1 186 = .ok (.getfield 23, 3) := by decide +kernel
theorem d_M_declaration_189 : decode m_M_declaration.2.1 189 = .ok (.iload_n 3, 1) := by decide +kernel
theorem d_M_declaration_190 : decode m_M_declaration.2.1 190 = .ok (.laload, 1) := by decide +kernel
theorem d_M_declaration_191 : decode m_M_declaration.2.1 191 = .ok (.lastore, 1) := by decide +kernel
theorem d_M_declaration_192 : decode m_M_declaration.2.1 192 = .ok (.aload_n 0, 1) := by decide +kernel
theorem d_M_declaration_193 : decode m_M_declaration.2.1 193 = .ok (.getfield 40, 3) := by decide +kernel
theorem d_M_declaration_196 : decode m_M_declaration.2.1 196 = .ok (.aload_n 0, 1) := by decide +kernel
theorem d_M_declaration_197 : decode m_M_declaration.2.1 197 = .ok (.getfield 246, 3) := by decide +kernel
theorem d_M_declaration_200 : decode m_M_declaration.2.1 200 = .ok (.iload_n 1, 1) := by decide +kernel
theorem d_M_declaration_201 : decode m_M_declaration.2.1 201 = .ok (.ifCond .eq 7, 3) := by decide +kernel
theorem d_M_declaration_204 : decode m_M_declaration.2.1 204 = .ok (.iconst 1, 1) := by decide +kernel
theorem d_M_declaration_205 : decode m_M_declaration.2.1 205 = .ok (.goto 4, 3) := by decide +kernel
theorem d_M_declaration_208 : decode m_M_declaration.2.1 208 = .ok (.iconst 0, 1) := by decide +kernel
theorem d_M_declaration_209 : decode m_M_declaration.2.1 209 = .ok (.iastore, 1) := by decide +kernel
theorem d_M_declaration_210 : decode m_M_declaration.2.1 210 = .ok (.aload_n 0, 1) := by decide +kernel
theorem d_M_declaration_211 : decode m_M_declaration.2.1 211 = .ok (.getfield 43, 3) := by decide +kernel
theorem d_M_declaration_214 : decode m_M_declaration.2.1 214 = .ok (.aload_n 0, 1) := by decide +kernel
theorem d_M_declaration_215 : decode m_M_declaration.2.1 215 = .ok (.getfield 246, 3) := by decide +kernel
theorem d_M_declaration_218 : decode m_M_declaration.2.1 218 = .ok (.iload_n 1, 1) := by decide +kernel
theorem d_M_declaration_219 : decode m_M_declaration.2.1 219 = .ok (.ifCond .eq 10, 3) := by decide +kernel
theorem d_M_declaration_222 : decode m_M_declaration.2.1 222 = .ok (.aload_n 0, 1) := by decide +kernel
theorem d_M_declaration_223 : decode m_M_declaration.2.1 223 = .ok (.getfield 264, 3) := by decide +kernel
theorem d_M_declaration_226 : decode m_M_declaration.2.1 226 = .ok (.goto 7, 3) := by decide +kernel
theorem d_M_declaration_229 : decode m_M_declaration.2.1 229 = .ok (.aload_n 0, 1) := by decide +kernel
theorem d_M_declaration_230 : decode m_M_declaration.2.1 230 = .ok (.getfield 261, 3) := by decide +kernel
theorem d_M_declaration_233 : decode m_M_declaration.2.1 233 = .ok (.iastore, 1) := by decide +kernel
theorem d_M_declaration_234 : decode m_M_declaration.2.1 234 = .ok (.aload_n 0, 1) := by decide +kernel
theorem d_M_declaration_235 : decode m_M_declaration.2.1 235 = .ok (.getfield 46, 3) := by decide +kernel
theorem d_M_declaration_238 : decode m_M_declaration.2.1 238 = .ok (.aload_n 0, 1) := by decide +kernel
theorem d_M_declaration_239 : decode m_M_declaration.2.1 239 = .ok (.getfield 246, 3) := by decide +kernel
theorem d_M_declaration_242 : decode m_M_declaration.2.1 242 = .ok (.aload_n 0, 1) := by decide +kernel
theorem d_M_declaration_243 : decode m_M_declaration.2.1 243 = .ok (.getfield 20, 3) := by decide +kernel
theorem d_M_declaration_246 : decode m_M_declaration.2.1 246 = .ok (.iload 4, 2) := by decide +kernel
theorem d_M_declaration_248 : decode m_M_declaration.2.1 248 = .ok (.iaload, 1) := by decide +kernel
theorem d_M_declaration_249 : decode m_M_declaration.2.1 249 = .ok (.iastore, 1) := by decide +kernel
theorem d_M_declaration_250 : decode m_M_declaration.2.1 250 = .ok (.aload_n 0, 1) := by decide +kernel
theorem d_M_declaration_251 : decode m_M_declaration.2.1 251 = .ok (.dup, 1) := by decide +kernel
theorem d_M_declaration_252 : decode m_M_declaration.2.1 252 = .ok (.getfield 246, 3) := by decide +kernel
theorem d_M_declaration_255 : decode m_M_declaration.2.1 255 = .ok (.iconst 1, 1) := by decide +kernel
theorem d_M_declaration_256 : decode m_M_declaration.2.1 256 = .ok (.iadd, 1) := by decide +kernel
theorem d_M_declaration_257 : decode m_M_declaration.2.1 257 = .ok (.putfield 246, 3) := by decide +kernel
theorem d_M_declaration_260 : decode m_M_declaration.2.1 260 = .ok (.iload_n 1, 1) := by decide +kernel
theorem d_M_declaration_261 : decode m_M_declaration.2.1 261 = .ok (.ifCond .eq 48, 3) := by decide +kernel
theorem d_M_declaration_264 : decode m_M_declaration.2.1 264 = .ok (.aload_n 0, 1) := by decide +kernel
theorem d_M_declaration_265 : decode m_M_declaration.2.1 265 = .ok (.dup, 1) := by decide +kernel
theorem d_M_declaration_266 : decode m_M_declaration.2.1 266 = .ok (.getfield 258, 3) := by decide +kernel
theorem d_M_declaration_269 : decode m_M_declaration.2.1 269 = .ok (.aload_n 0, 1) := by decide +kernel
theorem d_M_declaration_270 : decode m_M_declaration.2.1 270 = .ok (.getfield 20, 3) := by decide +kernel
theorem d_M_declaration_273 : decode m_M_declaration.2.1 273 = .ok (.iload 4, 2) := by decide +kernel
theorem d_M_declaration_275 : decode m_M_declaration.2.1 275 = .ok (.iaload, 1) := by decide +kernel
theorem d_M_declaration_276 : decode m_M_declaration.2.1 276 = .ok (.iadd, 1) := by decide +kernel
theorem d_M_declaration_277 : decode m_M_declaration.2.1 277 = .ok (.putfield 258, 3) := by decide +kernel
theorem d_M_declaration_280 : decode m_M_declaration.2.1 280 = .ok (.aload_n 0, 1) := by decide +kernel
theorem d_M_declaration_281 : decode m_M_declaration.2.1 281 = .ok (.getfield 55, 3) := by decide +kernel
theorem d_M_declaration_284 : decode m_M_declaration.2.1 284 = .ok (.aload_n 0, 1) := by decide +kernel
theorem d_M_declaration_285 : decode m_M_declaration.2.1 285 = .ok (.getfield 264, 3) := by decide +kernel
theorem d_M_declaration_288 : decode m_M_declaration.2.1 288 = .ok (.aload_n 0, 1) := by decide +kernel
theorem d_M_declaration_289 : decode m_M_declaration.2.1 289 = .ok (.getfield 20, 3) := by decide +kernel
theorem d_M_declaration_292 : decode m_M_declaration.2.1 292 = .ok (.iload 4, 2) := by decide +kernel
theorem d_M_declaration_294 : decode m_M_declaration.2.1 294 = .ok (.iaload, 1) := by decide +kernel
theorem d_M_declaration_295 : decode m_M_declaration.2.1 295 = .ok (.iastore, 1) := by decide +kernel
theorem d_M_declaration_296 : decode m_M_declaration.2.1 296 = .ok (.aload_n 0, 1) := by decide +kernel
theorem d_M_declaration_297 : decode m_M_declaration.2.1 297 = .ok (.dup, 1) := by decide +kernel
theorem d_M_declaration_298 : decode m_M_declaration.2.1 298 = .ok (.getfield 264, 3) := by decide +kernel
theorem d_M_declaration_301 : decode m_M_declaration.2.1 301 = .ok (.iconst 1, 1) := by decide +kernel
theorem d_M_declaration_302 : decode m_M_declaration.2.1 302 = .ok (.iadd, 1) := by decide +kernel
theorem d_M_declaration_303 : decode m_M_declaration.2.1 303 = .ok (.putfield 264, 3) := by decide +kernel
theorem d_M_declaration_306 : decode m_M_declaration.2.1 306 = .ok (.goto 29, 3) := by decide +kernel
theorem d_M_declaration_309 : decode m_M_declaration.2.1 309 = .ok (.aload_n 0, 1) := by decide +kernel
theorem d_M_declaration_310 : decode m_M_declaration.2.1 310 = .ok (.getfield 58, 3) := by decide +kernel
theorem d_M_declaration_313 : decode m_M_declaration.2.1 313 = .ok (.aload_n 0, 1) := by decide +kernel
theorem d_M_declaration_314 : decode m_M_declaration.2.1 314 = .ok (.getfield 261, 3) := by decide +kernel
theorem d_M_declaration_317 : decode m_M_declaration.2.1 317 = .ok (.aload_n 0, 1) := by decide +kernel
theorem d_M_declaration_318 : decode m_M_declaration.2.1 318 = .ok (.getfield 20, 3) := by decide +kernel
theorem d_M_declaration_321 : decode m_M_declaration.2.1 321 = .ok (.iload 4, 2) := by decide +kernel
theorem d_M_declaration_323 : decode m_M_declaration.2.1 323 = .ok (.iaload, 1) := by decide +kernel
theorem d_M_declaration_324 : decode m_M_declaration.2.1 324 = .ok (.iastore, 1) := by decide +kernel
theorem d_M_declaration_325 : decode m_M_declaration.2.1 325 = .ok (.aload_n 0, 1) := by decide +kernel
theorem d_M_declaration_326 : decode m_M_declaration.2.1 326 = .ok (.dup, 1) := by decide +kernel
theorem d_M_declaration_327 : decode m_M_declaration.2.1 327 = .ok (.getfield 261, 3) := by decide +kernel
theorem d_M_declaration_330 : decode m_M_declaration.2.1 330 = .ok (.iconst 1, 1) := by decide +kernel
theorem d_M_declaration_331 : decode m_M_declaration.2.1 331 = .ok (.iadd, 1) := by decide +kernel
theorem d_M_declaration_332 : decode m_M_declaration.2.1 332 = .ok (.putfield 261, 3) := by decide +kernel
theorem d_M_declaration_335 : decode m_M_declaration.2.1 335 = .ok (.return_, 1) := by decide +kernel
theorem d_M_taken_0 : decode m_M_taken.2.1 0 = .ok (.aload_n 0, 1) := by decide +kernel
theorem d_M_taken_1 : decode m_M_taken.2.1 1 = .ok (.getfield 224, 3) := by decide +kernel
theorem d_M_taken_4 : decode m_M_taken.2.1 4 = .ok (.bipush 30, 2) := by decide +kernel
theorem d_M_taken_6 : decode m_M_taken.2.1 6 = .ok (.if_icmp .gt 23, 3) := by decide +kernel
theorem d_M_taken_9 : decode m_M_taken.2.1 9 = .ok (.aload_n 0, 1) := by decide +kernel
theorem d_M_taken_10 : decode m_M_taken.2.1 10 = .ok (.invokevirtual 227, 3) := by decide +kernel
theorem d_M_taken_13 : decode m_M_taken.2.1 13 = .ok (.sipush 273, 3) := by decide +kernel
theorem d_M_taken_16 : decode m_M_taken.2.1 16 = .ok (.if_icmp .eq 13, 3) := by decide +kernel
theorem d_M_taken_19 : decode m_M_taken.2.1 19 = .ok (.aload_n 0, 1) := by decide +kernel
theorem d_M_taken_20 : decode m_M_taken.2.1 20 = .ok (.invokevirtual 227, 3) := by decide +kernel
theorem d_M_taken_23 : decode m_M_taken.2.1 23 = .ok (.sipush 274, 3) := by decide +kernel
theorem d_M_taken_26 : decode m_M_taken.2.1 26 = .ok (.if_icmp .ne 8, 3) := by decide +kernel
theorem d_M_taken_29 : decode m_M_taken.2.1 29 = .ok (.aload_n 0, 1) := by decide +kernel
theorem d_M_taken_30 : decode m_M_taken.2.1 30 = .ok (.invokevirtual 230, 3) := by decide +kernel
theorem d_M_taken_33 : decode m_M_taken.2.1 33 = .ok (.athrow, 1) := by decide +kernel
theorem d_M_taken_34 : decode m_M_taken.2.1 34 = .ok (.aload_n 0, 1) := by decide +kernel
theorem d_M_taken_35 : decode m_M_taken.2.1 35 = .ok (.dup, 1) := by decide +kernel
theorem d_M_taken_36 : decode m_M_taken.2.1 36 = .ok (.getfield 218, 3) := by decide +kernel
theorem d_M_taken_39 : decode m_M_taken.2.1 39 = .ok (.iconst 1, 1) := by decide +kernel
theorem d_M_taken_40 : decode m_M_taken.2.1 40 = .ok (.iadd, 1) := by decide +kernel
theorem d_M_taken_41 : decode m_M_taken.2.1 41 = .ok (.putfield 218, 3) := by decide +kernel
theorem d_M_taken_44 : decode m_M_taken.2.1 44 = .ok (.aload_n 0, 1) := by decide +kernel
theorem d_M_taken_45 : decode m_M_taken.2.1 45 = .ok (.getfield 218, 3) := by decide +kernel
theorem d_M_taken_48 : decode m_M_taken.2.1 48 = .ok (.iconst 1, 1) := by decide +kernel
theorem d_M_taken_49 : decode m_M_taken.2.1 49 = .ok (.isub, 1) := by decide +kernel
theorem d_M_taken_50 : decode m_M_taken.2.1 50 = .ok (.ireturn, 1) := by decide +kernel
theorem d_M_bad_0 : decode m_M_bad.2.1 0 = .ok (.aload_n 0, 1) := by decide +kernel
theorem d_M_bad_1 : decode m_M_bad.2.1 1 = .ok (.aload_n 0, 1) := by decide +kernel
theorem d_M_bad_2 : decode m_M_bad.2.1 2 = .ok (.getfield 17, 3) := by decide +kernel
theorem d_M_bad_5 : decode m_M_bad.2.1 5 = .ok (.aload_n 0, 1) := by decide +kernel
theorem d_M_bad_6 : decode m_M_bad.2.1 6 = .ok (.getfield 218, 3) := by decide +kernel
theorem d_M_bad_9 : decode m_M_bad.2.1 9 = .ok (.iaload, 1) := by decide +kernel
theorem d_M_bad_10 : decode m_M_bad.2.1 10 = .ok (.putfield 221, 3) := by decide +kernel
theorem d_M_bad_13 : decode m_M_bad.2.1 13 = .ok (.aload_n 0, 1) := by decide +kernel
theorem d_M_bad_14 : decode m_M_bad.2.1 14 = .ok (.getfield 30, 3) := by decide +kernel
theorem d_M_bad_17 : decode m_M_bad.2.1 17 = .ok (.areturn, 1) := by decide +kernel
theorem d_M_expect_0 : decode m_M_expect.2.1 0 = .ok (.aload_n 0, 1) := by decide +kernel
theorem d_M_expect_1 : decode m_M_expect.2.1 1 = .ok (.invokevirtual 227, 3) := by decide +kernel
theorem d_M_expect_4 : decode m_M_expect.2.1 4 = .ok (.iload_n 1, 1) := by decide +kernel
theorem d_M_expect_5 : decode m_M_expect.2.1 5 = .ok (.if_icmp .eq 8, 3) := by decide +kernel
theorem d_M_expect_8 : decode m_M_expect.2.1 8 = .ok (.aload_n 0, 1) := by decide +kernel
theorem d_M_expect_9 : decode m_M_expect.2.1 9 = .ok (.invokevirtual 230, 3) := by decide +kernel
theorem d_M_expect_12 : decode m_M_expect.2.1 12 = .ok (.athrow, 1) := by decide +kernel
theorem d_M_expect_13 : decode m_M_expect.2.1 13 = .ok (.aload_n 0, 1) := by decide +kernel
theorem d_M_expect_14 : decode m_M_expect.2.1 14 = .ok (.invokevirtual 234, 3) := by decide +kernel
theorem d_M_expect_17 : decode m_M_expect.2.1 17 = .ok (.ireturn, 1) := by decide +kernel
theorem d_M_lookUp_0 : decode m_M_lookUp.2.1 0 = .ok (.iconst 0, 1) := by decide +kernel
theorem d_M_lookUp_1 : decode m_M_lookUp.2.1 1 = .ok (.istore_n 3, 1) := by decide +kernel
theorem d_M_lookUp_2 : decode m_M_lookUp.2.1 2 = .ok (.iload_n 3, 1) := by decide +kernel
theorem d_M_lookUp_3 : decode m_M_lookUp.2.1 3 = .ok (.aload_n 0, 1) := by decide +kernel
theorem d_M_lookUp_4 : decode m_M_lookUp.2.1 4 = .ok (.getfield 246, 3) := by decide +kernel
theorem d_M_lookUp_7 : decode m_M_lookUp.2.1 7 = .ok (.if_icmp .ge 22, 3) := by decide +kernel
theorem d_M_lookUp_10 : decode m_M_lookUp.2.1 10 = .ok (.aload_n 0, 1) := by decide +kernel
theorem d_M_lookUp_11 : decode m_M_lookUp.2.1 11 = .ok (.getfield 37, 3) := by decide +kernel
theorem d_M_lookUp_14 : decode m_M_lookUp.2.1 14 = .ok (.iload_n 3, 1) := by decide +kernel
theorem d_M_lookUp_15 : decode m_M_lookUp.2.1 15 = .ok (.laload, 1) := by decide +kernel
theorem d_M_lookUp_16 : decode m_M_lookUp.2.1 16 = .ok (.lload_n 1, 1) := by decide +kernel
theorem d_M_lookUp_17 : decode m_M_lookUp.2.1 17 = .ok (.lcmp, 1) := by decide +kernel
theorem d_M_lookUp_18 : decode m_M_lookUp.2.1 18 = .ok (.ifCond .ne 5, 3) := by decide +kernel
theorem d_M_lookUp_21 : decode m_M_lookUp.2.1 21 = .ok (.iload_n 3, 1) := by decide +kernel
theorem d_M_lookUp_22 : decode m_M_lookUp.2.1 22 = .ok (.ireturn, 1) := by decide +kernel
theorem d_M_lookUp_23 : decode m_M_lookUp.2.1 23 = .ok (.iinc 3 1, 3) := by decide +kernel
theorem d_M_lookUp_26 : decode m_M_lookUp.2.1 26 = .ok (.goto (-24), 3) := by decide +kernel
theorem d_M_lookUp_29 : decode m_M_lookUp.2.1 29 = .ok (.iconst (-1), 1) := by decide +kernel
theorem d_M_lookUp_30 : decode m_M_lookUp.2.1 30 = .ok (.ireturn, 1) := by decide +kernel
theorem d_M_found_0 : decode m_M_found.2.1 0 = .ok (.aload_n 0, 1) := by decide +kernel
theorem d_M_found_1 : decode m_M_found.2.1 1 = .ok (.getfield 17, 3) := by decide +kernel
theorem d_M_found_4 : decode m_M_found.2.1 4 = .ok (.iload_n 2, 1) := by decide +kernel
theorem d_M_found_5 : decode m_M_found.2.1 5 = .ok (.iaload, 1) := by decide +kernel
theorem d_M_found_6 : decode m_M_found.2.1 6 = .ok (.istore_n 3, 1) := by decide +kernel
theorem d_M_found_7 : decode m_M_found.2.1 7 = .ok (.aload_n 0, 1) := by decide +kernel
theorem d_M_found_8 : decode m_M_found.2.1 8 = .ok (.getfield 237, 3) := by decide +kernel
theorem d_M_found_11 : decode m_M_found.2.1 11 = .ok (.ifCond .eq 12, 3) := by decide +kernel
theorem d_M_found_14 : decode m_M_found.2.1 14 = .ok (.aload_n 0, 1) := by decide +kernel
theorem d_M_found_15 : decode m_M_found.2.1 15 = .ok (.getfield 240, 3) := by decide +kernel
theorem d_M_found_18 : decode m_M_found.2.1 18 = .ok (.iload_n 3, 1) := by decide +kernel
theorem d_M_found_19 : decode m_M_found.2.1 19 = .ok (.if_icmp .gt 4, 3) := by decide +kernel
theorem d_M_found_22 : decode m_M_found.2.1 22 = .ok (.return_, 1) := by decide +kernel
theorem d_M_found_23 : decode m_M_found.2.1 23 = .ok (.aload_n 0, 1) := by decide +kernel
theorem d_M_found_24 : decode m_M_found.2.1 24 = .ok (.iload_n 1, 1) := by decide +kernel
theorem d_M_found_25 : decode m_M_found.2.1 25 = .ok (.putfield 237, 3) := by decide +kernel
theorem d_M_found_28 : decode m_M_found.2.1 28 = .ok (.aload_n 0, 1) := by decide +kernel
theorem d_M_found_29 : decode m_M_found.2.1 29 = .ok (.iload_n 3, 1) := by decide +kernel
theorem d_M_found_30 : decode m_M_found.2.1 30 = .ok (.putfield 240, 3) := by decide +kernel
theorem d_M_found_33 : decode m_M_found.2.1 33 = .ok (.return_, 1) := by decide +kernel
theorem d_M_statement_0 : decode m_M_statement.2.1 0 = .ok (.aload_n 0, 1) := by decide +kernel
theorem d_M_statement_1 : decode m_M_statement.2.1 1 = .ok (.invokevirtual 227, 3) := by decide +kernel
theorem d_M_statement_4 : decode m_M_statement.2.1 4 = .ok (.lookupswitch 476 #[(123, 392), (258, 168), (260, 259), (261, 337), (262, 337), (263, 60)], 60) := by decide +kernel
theorem d_M_statement_64 : decode m_M_statement.2.1 64 = .ok (.aload_n 0, 1) := by decide +kernel
theorem d_M_statement_65 : decode m_M_statement.2.1 65 = .ok (.invokevirtual 234, 3) := by decide +kernel
theorem d_M_statement_68 : decode m_M_statement.2.1 68 = .ok (.istore_n 1, 1) := by decide +kernel
theorem d_M_statement_69 : decode m_M_statement.2.1 69 = .ok (.aload_n 0, 1) := by decide +kernel
theorem d_M_statement_70 : decode m_M_statement.2.1 70 = .ok (.bipush 61, 2) := by decide +kernel
theorem d_M_statement_72 : decode m_M_statement.2.1 72 = .ok (.invokevirtual 249, 3) := by decide +kernel
theorem d_M_statement_75 : decode m_M_statement.2.1 75 = .ok (.istore_n 2, 1) := by decide +kernel
theorem d_M_statement_76 : decode m_M_statement.2.1 76 = .ok (.aload_n 0, 1) := by decide +kernel
theorem d_M_statement_77 : decode m_M_statement.2.1 77 = .ok (.invokevirtual 267, 3) := by decide +kernel
theorem d_M_statement_80 : decode m_M_statement.2.1 80 = .ok (.istore_n 3, 1) := by decide +kernel
theorem d_M_statement_81 : decode m_M_statement.2.1 81 = .ok (.aload_n 0, 1) := by decide +kernel
theorem d_M_statement_82 : decode m_M_statement.2.1 82 = .ok (.bipush 59, 2) := by decide +kernel
theorem d_M_statement_84 : decode m_M_statement.2.1 84 = .ok (.invokevirtual 249, 3) := by decide +kernel
theorem d_M_statement_87 : decode m_M_statement.2.1 87 = .ok (.istore_n 2, 1) := by decide +kernel
theorem d_M_statement_88 : decode m_M_statement.2.1 88 = .ok (.aload_n 0, 1) := by decide +kernel
theorem d_M_statement_89 : decode m_M_statement.2.1 89 = .ok (.aload_n 0, 1) := by decide +kernel
theorem d_M_statement_90 : decode m_M_statement.2.1 90 = .ok (.getfield 23, 3) := by decide +kernel
theorem d_M_statement_93 : decode m_M_statement.2.1 93 = .ok (.iload_n 1, 1) := by decide +kernel
theorem d_M_statement_94 : decode m_M_statement.2.1 94 = .ok (.laload, 1) := by decide +kernel
theorem d_M_statement_95 : decode m_M_statement.2.1 95 = .ok (.invokevirtual 252, 3) := by decide +kernel
theorem d_M_statement_98 : decode m_M_statement.2.1 98 = .ok (.istore 4, 2) := by decide +kernel
theorem d_M_statement_100 : decode m_M_statement.2.1 100 = .ok (.iload 4, 2) := by decide +kernel
theorem d_M_statement_102 : decode m_M_statement.2.1 102 = .ok (.ifCond .ge 12, 3) := by decide +kernel
theorem d_M_statement_105 : decode m_M_statement.2.1 105 = .ok (.aload_n 0, 1) := by decide +kernel
theorem d_M_statement_106 : decode m_M_statement.2.1 106 = .ok (.iconst 2, 1) := by decide +kernel
theorem d_M_statement_107 : decode m_M_statement.2.1 107 = .ok (.iload_n 1, 1) := by decide +kernel
theorem d_M_statement_108 : decode m_M_statement.2.1 108 = .ok (.invokevirtual 255, 3) := by decide +kernel
theorem d_M_statement_111 : decode m_M_statement.2.1 111 = .ok (.goto 20, 3) := by decide +kernel
theorem d_M_statement_114 : decode m_M_statement.2.1 114 = .ok (.aload_n 0, 1) := by decide +kernel
theorem d_M_statement_115 : decode m_M_statement.2.1 115 = .ok (.getfield 40, 3) := by decide +kernel
theorem d_M_statement_118 : decode m_M_statement.2.1 118 = .ok (.iload 4, 2) := by decide +kernel
theorem d_M_statement_120 : decode m_M_statement.2.1 120 = .ok (.iaload, 1) := by decide +kernel
theorem d_M_statement_121 : decode m_M_statement.2.1 121 = .ok (.iconst 1, 1) := by decide +kernel
theorem d_M_statement_122 : decode m_M_statement.2.1 122 = .ok (.if_icmp .ne 9, 3) := by decide +kernel
theorem d_M_statement_125 : decode m_M_statement.2.1 125 = .ok (.aload_n 0, 1) := by decide +kernel
theorem d_M_statement_126 : decode m_M_statement.2.1 126 = .ok (.iconst 4, 1) := by decide +kernel
theorem d_M_statement_127 : decode m_M_statement.2.1 127 = .ok (.iload_n 1, 1) := by decide +kernel
theorem d_M_statement_128 : decode m_M_statement.2.1 128 = .ok (.invokevirtual 255, 3) := by decide +kernel
theorem d_M_statement_131 : decode m_M_statement.2.1 131 = .ok (.aload_n 0, 1) := by decide +kernel
theorem d_M_statement_132 : decode m_M_statement.2.1 132 = .ok (.sipush 276, 3) := by decide +kernel
theorem d_M_statement_135 : decode m_M_statement.2.1 135 = .ok (.iload 4, 2) := by decide +kernel
theorem d_M_statement_137 : decode m_M_statement.2.1 137 = .ok (.ifCond .ge 7, 3) := by decide +kernel
theorem d_M_statement_140 : decode m_M_statement.2.1 140 = .ok (.iconst 0, 1) := by decide +kernel
theorem d_M_statement_141 : decode m_M_statement.2.1 141 = .ok (.goto 10, 3) := by decide +kernel
theorem d_M_statement_144 : decode m_M_statement.2.1 144 = .ok (.aload_n 0, 1) := by decide +kernel
theorem d_M_statement_145 : decode m_M_statement.2.1 145 = .ok (.getfield 43, 3) := by decide +kernel
theorem d_M_statement_148 : decode m_M_statement.2.1 148 = .ok (.iload 4, 2) := by decide +kernel
theorem d_M_statement_150 : decode m_M_statement.2.1 150 = .ok (.iaload, 1) := by decide +kernel
theorem d_M_statement_151 : decode m_M_statement.2.1 151 = .ok (.iload_n 3, 1) := by decide +kernel
theorem d_M_statement_152 : decode m_M_statement.2.1 152 = .ok (.iload 4, 2) := by decide +kernel
theorem d_M_statement_154 : decode m_M_statement.2.1 154 = .ok (.ifCond .ge 7, 3) := by decide +kernel
theorem d_M_statement_157 : decode m_M_statement.2.1 157 = .ok (.iconst 0, 1) := by decide +kernel
theorem d_M_statement_158 : decode m_M_statement.2.1 158 = .ok (.goto 10, 3) := by decide +kernel
theorem d_M_statement_161 : decode m_M_statement.2.1 161 = .ok (.aload_n 0, 1) := by decide +kernel
theorem d_M_statement_162 : decode m_M_statement.2.1 162 = .ok (.getfield 46, 3) := by decide +kernel
theorem d_M_statement_165 : decode m_M_statement.2.1 165 = .ok (.iload 4, 2) := by decide +kernel
theorem d_M_statement_167 : decode m_M_statement.2.1 167 = .ok (.iaload, 1) := by decide +kernel
theorem d_M_statement_168 : decode m_M_statement.2.1 168 = .ok (.invokevirtual 270, 3) := by decide +kernel
theorem d_M_statement_171 : decode m_M_statement.2.1 171 = .ok (.ireturn, 1) := by decide +kernel
theorem d_M_statement_172 : decode m_M_statement.2.1 172 = .ok (.aload_n 0, 1) := by decide +kernel
theorem d_M_statement_173 : decode m_M_statement.2.1 173 = .ok (.invokevirtual 234, 3) := by decide +kernel
theorem d_M_statement_176 : decode m_M_statement.2.1 176 = .ok (.istore_n 1, 1) := by decide +kernel
theorem d_M_statement_177 : decode m_M_statement.2.1 177 = .ok (.aload_n 0, 1) := by decide +kernel
theorem d_M_statement_178 : decode m_M_statement.2.1 178 = .ok (.invokevirtual 274, 3) := by decide +kernel
theorem d_M_statement_181 : decode m_M_statement.2.1 181 = .ok (.istore_n 2, 1) := by decide +kernel
theorem d_M_statement_182 : decode m_M_statement.2.1 182 = .ok (.aload_n 0, 1) := by decide +kernel
theorem d_M_statement_183 : decode m_M_statement.2.1 183 = .ok (.dup, 1) := by decide +kernel
theorem d_M_statement_184 : decode m_M_statement.2.1 184 = .ok (.getfield 224, 3) := by decide +kernel
theorem d_M_statement_187 : decode m_M_statement.2.1 187 = .ok (.iconst 1, 1) := by decide +kernel
theorem d_M_statement_188 : decode m_M_statement.2.1 188 = .ok (.iadd, 1) := by decide +kernel
theorem d_M_statement_189 : decode m_M_statement.2.1 189 = .ok (.putfield 224, 3) := by decide +kernel
theorem d_M_statement_192 : decode m_M_statement.2.1 192 = .ok (.aload_n 0, 1) := by decide +kernel
theorem d_M_statement_193 : decode m_M_statement.2.1 193 = .ok (.invokevirtual 277, 3) := by decide +kernel
theorem d_M_statement_196 : decode m_M_statement.2.1 196 = .ok (.istore_n 3, 1) := by decide +kernel
theorem d_M_statement_197 : decode m_M_statement.2.1 197 = .ok (.aload_n 0, 1) := by decide +kernel
theorem d_M_statement_198 : decode m_M_statement.2.1 198 = .ok (.dup, 1) := by decide +kernel
theorem d_M_statement_199 : decode m_M_statement.2.1 199 = .ok (.getfield 224, 3) := by decide +kernel
theorem d_M_statement_202 : decode m_M_statement.2.1 202 = .ok (.iconst 1, 1) := by decide +kernel
theorem d_M_statement_203 : decode m_M_statement.2.1 203 = .ok (.isub, 1) := by decide +kernel
theorem d_M_statement_204 : decode m_M_statement.2.1 204 = .ok (.putfield 224, 3) := by decide +kernel
theorem d_M_statement_207 : decode m_M_statement.2.1 207 = .ok (.iconst (-1), 1) := by decide +kernel
theorem d_M_statement_208 : decode m_M_statement.2.1 208 = .ok (.istore 4, 2) := by decide +kernel
theorem d_M_statement_210 : decode m_M_statement.2.1 210 = .ok (.aload_n 0, 1) := by decide +kernel
theorem d_M_statement_211 : decode m_M_statement.2.1 211 = .ok (.invokevirtual 227, 3) := by decide +kernel
theorem d_M_statement_214 : decode m_M_statement.2.1 214 = .ok (.sipush 259, 3) := by decide +kernel
theorem d_M_statement_217 : decode m_M_statement.2.1 217 = .ok (.if_icmp .ne 34, 3) := by decide +kernel
theorem d_M_statement_220 : decode m_M_statement.2.1 220 = .ok (.aload_n 0, 1) := by decide +kernel
theorem d_M_statement_221 : decode m_M_statement.2.1 221 = .ok (.invokevirtual 234, 3) := by decide +kernel
theorem d_M_statement_224 : decode m_M_statement.2.1 224 = .ok (.istore_n 1, 1) := by decide +kernel
theorem d_M_statement_225 : decode m_M_statement.2.1 225 = .ok (.aload_n 0, 1) := by decide +kernel
theorem d_M_statement_226 : decode m_M_statement.2.1 226 = .ok (.dup, 1) := by decide +kernel
theorem d_M_statement_227 : decode m_M_statement.2.1 227 = .ok (.getfield 224, 3) := by decide +kernel
theorem d_M_statement_230 : decode m_M_statement.2.1 230 = .ok (.iconst 1, 1) := by decide +kernel
theorem d_M_statement_231 : decode m_M_statement.2.1 231 = .ok (.iadd, 1) := by decide +kernel
theorem d_M_statement_232 : decode m_M_statement.2.1 232 = .ok (.putfield 224, 3) := by decide +kernel
theorem d_M_statement_235 : decode m_M_statement.2.1 235 = .ok (.aload_n 0, 1) := by decide +kernel
theorem d_M_statement_236 : decode m_M_statement.2.1 236 = .ok (.invokevirtual 277, 3) := by decide +kernel
theorem d_M_statement_239 : decode m_M_statement.2.1 239 = .ok (.istore 4, 2) := by decide +kernel
theorem d_M_statement_241 : decode m_M_statement.2.1 241 = .ok (.aload_n 0, 1) := by decide +kernel
theorem d_M_statement_242 : decode m_M_statement.2.1 242 = .ok (.dup, 1) := by decide +kernel
theorem d_M_statement_243 : decode m_M_statement.2.1 243 = .ok (.getfield 224, 3) := by decide +kernel
theorem d_M_statement_246 : decode m_M_statement.2.1 246 = .ok (.iconst 1, 1) := by decide +kernel
theorem d_M_statement_247 : decode m_M_statement.2.1 247 = .ok (.isub, 1) := by decide +kernel
theorem d_M_statement_248 : decode m_M_statement.2.1 248 = .ok (.putfield 224, 3) := by decide +kernel
theorem d_M_statement_251 : decode m_M_statement.2.1 251 = .ok (.aload_n 0, 1) := by decide +kernel
theorem d_M_statement_252 : decode m_M_statement.2.1 252 = .ok (.sipush 258, 3) := by decide +kernel
theorem d_M_statement_255 : decode m_M_statement.2.1 255 = .ok (.iload_n 2, 1) := by decide +kernel
theorem d_M_statement_256 : decode m_M_statement.2.1 256 = .ok (.iload_n 3, 1) := by decide +kernel
theorem d_M_statement_257 : decode m_M_statement.2.1 257 = .ok (.iload 4, 2) := by decide +kernel
theorem d_M_statement_259 : decode m_M_statement.2.1 259 = .ok (.invokevirtual 270, 3) := by decide +kernel
theorem d_M_statement_262 : decode m_M_statement.2.1 262 = .ok (.ireturn, 1) := by decide +kernel
theorem d_M_statement_263 : decode m_M_statement.2.1 263 = .ok (.aload_n 0, 1) := by decide +kernel
theorem d_M_statement_264 : decode m_M_statement.2.1 264 = .ok (.invokevirtual 234, 3) := by decide +kernel
theorem d_M_statement_267 : decode m_M_statement.2.1 267 = .ok (.istore_n 1, 1) := by decide +kernel
theorem d_M_statement_268 : decode m_M_statement.2.1 268 = .ok (.aload_n 0, 1) := by decide +kernel
theorem d_M_statement_269 : decode m_M_statement.2.1 269 = .ok (.sipush 264, 3) := by decide +kernel
theorem d_M_statement_272 : decode m_M_statement.2.1 272 = .ok (.invokevirtual 249, 3) := by decide +kernel
theorem d_M_statement_275 : decode m_M_statement.2.1 275 = .ok (.istore_n 2, 1) := by decide +kernel
theorem d_M_statement_276 : decode m_M_statement.2.1 276 = .ok (.aload_n 0, 1) := by decide +kernel
theorem d_M_statement_277 : decode m_M_statement.2.1 277 = .ok (.getfield 20, 3) := by decide +kernel
theorem d_M_statement_280 : decode m_M_statement.2.1 280 = .ok (.iload_n 2, 1) := by decide +kernel
theorem d_M_statement_281 : decode m_M_statement.2.1 281 = .ok (.iaload, 1) := by decide +kernel
theorem d_M_statement_282 : decode m_M_statement.2.1 282 = .ok (.bipush 8, 2) := by decide +kernel
theorem d_M_statement_284 : decode m_M_statement.2.1 284 = .ok (.if_icmp .le 9, 3) := by decide +kernel
theorem d_M_statement_287 : decode m_M_statement.2.1 287 = .ok (.aload_n 0, 1) := by decide +kernel
theorem d_M_statement_288 : decode m_M_statement.2.1 288 = .ok (.iconst 5, 1) := by decide +kernel
theorem d_M_statement_289 : decode m_M_statement.2.1 289 = .ok (.iload_n 2, 1) := by decide +kernel
theorem d_M_statement_290 : decode m_M_statement.2.1 290 = .ok (.invokevirtual 255, 3) := by decide +kernel
theorem d_M_statement_293 : decode m_M_statement.2.1 293 = .ok (.aload_n 0, 1) := by decide +kernel
theorem d_M_statement_294 : decode m_M_statement.2.1 294 = .ok (.invokevirtual 274, 3) := by decide +kernel
theorem d_M_statement_297 : decode m_M_statement.2.1 297 = .ok (.istore_n 3, 1) := by decide +kernel
theorem d_M_statement_298 : decode m_M_statement.2.1 298 = .ok (.aload_n 0, 1) := by decide +kernel
theorem d_M_statement_299 : decode m_M_statement.2.1 299 = .ok (.dup, 1) := by decide +kernel
theorem d_M_statement_300 : decode m_M_statement.2.1 300 = .ok (.getfield 224, 3) := by decide +kernel
theorem d_M_statement_303 : decode m_M_statement.2.1 303 = .ok (.iconst 1, 1) := by decide +kernel
theorem d_M_statement_304 : decode m_M_statement.2.1 304 = .ok (.iadd, 1) := by decide +kernel
theorem d_M_statement_305 : decode m_M_statement.2.1 305 = .ok (.putfield 224, 3) := by decide +kernel
theorem d_M_statement_308 : decode m_M_statement.2.1 308 = .ok (.aload_n 0, 1) := by decide +kernel
theorem d_M_statement_309 : decode m_M_statement.2.1 309 = .ok (.invokevirtual 277, 3) := by decide +kernel
theorem d_M_statement_312 : decode m_M_statement.2.1 312 = .ok (.istore 4, 2) := by decide +kernel
theorem d_M_statement_314 : decode m_M_statement.2.1 314 = .ok (.aload_n 0, 1) := by decide +kernel
theorem d_M_statement_315 : decode m_M_statement.2.1 315 = .ok (.dup, 1) := by decide +kernel
theorem d_M_statement_316 : decode m_M_statement.2.1 316 = .ok (.getfield 224, 3) := by decide +kernel
theorem d_M_statement_319 : decode m_M_statement.2.1 319 = .ok (.iconst 1, 1) := by decide +kernel
theorem d_M_statement_320 : decode m_M_statement.2.1 320 = .ok (.isub, 1) := by decide +kernel
theorem d_M_statement_321 : decode m_M_statement.2.1 321 = .ok (.putfield 224, 3) := by decide +kernel
theorem d_M_statement_324 : decode m_M_statement.2.1 324 = .ok (.aload_n 0, 1) := by decide +kernel
theorem d_M_statement_325 : decode m_M_statement.2.1 325 = .ok (.sipush 260, 3) := by decide +kernel
theorem d_M_statement_328 : decode m_M_statement.2.1 328 = .ok (.iload_n 3, 1) := by decide +kernel
theorem d_M_statement_329 : decode m_M_statement.2.1 329 = .ok (.iload 4, 2) := by decide +kernel
theorem d_M_statement_331 : decode m_M_statement.2.1 331 = .ok (.aload_n 0, 1) := by decide +kernel
theorem d_M_statement_332 : decode m_M_statement.2.1 332 = .ok (.getfield 20, 3) := by decide +kernel
theorem d_M_statement_335 : decode m_M_statement.2.1 335 = .ok (.iload_n 2, 1) := by decide +kernel
theorem d_M_statement_336 : decode m_M_statement.2.1 336 = .ok (.iaload, 1) := by decide +kernel
theorem d_M_statement_337 : decode m_M_statement.2.1 337 = .ok (.invokevirtual 270, 3) := by decide +kernel
theorem d_M_statement_340 : decode m_M_statement.2.1 340 = .ok (.ireturn, 1) := by decide +kernel
theorem d_M_statement_341 : decode m_M_statement.2.1 341 = .ok (.aload_n 0, 1) := by decide +kernel
theorem d_M_statement_342 : decode m_M_statement.2.1 342 = .ok (.invokevirtual 227, 3) := by decide +kernel
theorem d_M_statement_345 : decode m_M_statement.2.1 345 = .ok (.istore_n 1, 1) := by decide +kernel
theorem d_M_statement_346 : decode m_M_statement.2.1 346 = .ok (.aload_n 0, 1) := by decide +kernel
theorem d_M_statement_347 : decode m_M_statement.2.1 347 = .ok (.invokevirtual 234, 3) := by decide +kernel
theorem d_M_statement_350 : decode m_M_statement.2.1 350 = .ok (.istore_n 2, 1) := by decide +kernel
theorem d_M_statement_351 : decode m_M_statement.2.1 351 = .ok (.aload_n 0, 1) := by decide +kernel
theorem d_M_statement_352 : decode m_M_statement.2.1 352 = .ok (.getfield 280, 3) := by decide +kernel
theorem d_M_statement_355 : decode m_M_statement.2.1 355 = .ok (.istore_n 3, 1) := by decide +kernel
theorem d_M_statement_356 : decode m_M_statement.2.1 356 = .ok (.iload_n 1, 1) := by decide +kernel
theorem d_M_statement_357 : decode m_M_statement.2.1 357 = .ok (.sipush 261, 3) := by decide +kernel
theorem d_M_statement_360 : decode m_M_statement.2.1 360 = .ok (.if_icmp .ne 13, 3) := by decide +kernel
theorem d_M_statement_363 : decode m_M_statement.2.1 363 = .ok (.aload_n 0, 1) := by decide +kernel
theorem d_M_statement_364 : decode m_M_statement.2.1 364 = .ok (.dup, 1) := by decide +kernel
theorem d_M_statement_365 : decode m_M_statement.2.1 365 = .ok (.getfield 280, 3) := by decide +kernel
theorem d_M_statement_368 : decode m_M_statement.2.1 368 = .ok (.iconst 1, 1) := by decide +kernel
theorem d_M_statement_369 : decode m_M_statement.2.1 369 = .ok (.iadd, 1) := by decide +kernel
theorem d_M_statement_370 : decode m_M_statement.2.1 370 = .ok (.putfield 280, 3) := by decide +kernel
theorem d_M_statement_373 : decode m_M_statement.2.1 373 = .ok (.aload_n 0, 1) := by decide +kernel
theorem d_M_statement_374 : decode m_M_statement.2.1 374 = .ok (.invokevirtual 267, 3) := by decide +kernel
theorem d_M_statement_377 : decode m_M_statement.2.1 377 = .ok (.istore 4, 2) := by decide +kernel
theorem d_M_statement_379 : decode m_M_statement.2.1 379 = .ok (.aload_n 0, 1) := by decide +kernel
theorem d_M_statement_380 : decode m_M_statement.2.1 380 = .ok (.bipush 59, 2) := by decide +kernel
theorem d_M_statement_382 : decode m_M_statement.2.1 382 = .ok (.invokevirtual 249, 3) := by decide +kernel
theorem d_M_statement_385 : decode m_M_statement.2.1 385 = .ok (.istore_n 2, 1) := by decide +kernel
theorem d_M_statement_386 : decode m_M_statement.2.1 386 = .ok (.aload_n 0, 1) := by decide +kernel
theorem d_M_statement_387 : decode m_M_statement.2.1 387 = .ok (.iload_n 1, 1) := by decide +kernel
theorem d_M_statement_388 : decode m_M_statement.2.1 388 = .ok (.iload 4, 2) := by decide +kernel
theorem d_M_statement_390 : decode m_M_statement.2.1 390 = .ok (.iload_n 3, 1) := by decide +kernel
theorem d_M_statement_391 : decode m_M_statement.2.1 391 = .ok (.iconst 0, 1) := by decide +kernel
theorem d_M_statement_392 : decode m_M_statement.2.1 392 = .ok (.invokevirtual 270, 3) := by decide +kernel
theorem d_M_statement_395 : decode m_M_statement.2.1 395 = .ok (.ireturn, 1) := by decide +kernel
theorem d_M_statement_396 : decode m_M_statement.2.1 396 = .ok (.aload_n 0, 1) := by decide +kernel
theorem d_M_statement_397 : decode m_M_statement.2.1 397 = .ok (.invokevirtual 234, 3) := by decide +kernel
theorem d_M_statement_400 : decode m_M_statement.2.1 400 = .ok (.istore_n 1, 1) := by decide +kernel
theorem d_M_statement_401 : decode m_M_statement.2.1 401 = .ok (.aload_n 0, 1) := by decide +kernel
theorem d_M_statement_402 : decode m_M_statement.2.1 402 = .ok (.dup, 1) := by decide +kernel
theorem d_M_statement_403 : decode m_M_statement.2.1 403 = .ok (.getfield 224, 3) := by decide +kernel
theorem d_M_statement_406 : decode m_M_statement.2.1 406 = .ok (.iconst 1, 1) := by decide +kernel
theorem d_M_statement_407 : decode m_M_statement.2.1 407 = .ok (.iadd, 1) := by decide +kernel
theorem d_M_statement_408 : decode m_M_statement.2.1 408 = .ok (.putfield 224, 3) := by decide +kernel
theorem d_M_statement_411 : decode m_M_statement.2.1 411 = .ok (.iconst (-1), 1) := by decide +kernel
theorem d_M_statement_412 : decode m_M_statement.2.1 412 = .ok (.istore_n 2, 1) := by decide +kernel
theorem d_M_statement_413 : decode m_M_statement.2.1 413 = .ok (.iconst (-1), 1) := by decide +kernel
theorem d_M_statement_414 : decode m_M_statement.2.1 414 = .ok (.istore_n 3, 1) := by decide +kernel
theorem d_M_statement_415 : decode m_M_statement.2.1 415 = .ok (.aload_n 0, 1) := by decide +kernel
theorem d_M_statement_416 : decode m_M_statement.2.1 416 = .ok (.invokevirtual 227, 3) := by decide +kernel
theorem d_M_statement_419 : decode m_M_statement.2.1 419 = .ok (.bipush 125, 2) := by decide +kernel
theorem d_M_statement_421 : decode m_M_statement.2.1 421 = .ok (.if_icmp .eq 33, 3) := by decide +kernel
theorem d_M_statement_424 : decode m_M_statement.2.1 424 = .ok (.aload_n 0, 1) := by decide +kernel
theorem d_M_statement_425 : decode m_M_statement.2.1 425 = .ok (.invokevirtual 277, 3) := by decide +kernel
theorem d_M_statement_428 : decode m_M_statement.2.1 428 = .ok (.istore 4, 2) := by decide +kernel
theorem d_M_statement_430 : decode m_M_statement.2.1 430 = .ok (.iload_n 3, 1) := by decide +kernel
theorem d_M_statement_431 : decode m_M_statement.2.1 431 = .ok (.ifCond .ge 9, 3) := by decide +kernel
theorem d_M_statement_434 : decode m_M_statement.2.1 434 = .ok (.iload 4, 2) := by decide +kernel
theorem d_M_statement_436 : decode m_M_statement.2.1 436 = .ok (.istore_n 2, 1) := by decide +kernel
theorem d_M_statement_437 : decode m_M_statement.2.1 437 = .ok (.goto 11, 3) := by decide +kernel
theorem d_M_statement_440 : decode m_M_statement.2.1 440 = .ok (.aload_n 0, 1) := by decide +kernel
theorem d_M_statement_441 : decode m_M_statement.2.1 441 = .ok (.getfield 73, 3) := by decide +kernel
theorem d_M_statement_444 : decode m_M_statement.2.1 444 = .ok (.iload_n 3, 1) := by decide +kernel
theorem d_M_statement_445 : decode m_M_statement.2.1 445 = .ok (.iload 4, 2) := by decide +kernel
theorem d_M_statement_447 : decode m_M_statement.2.1 447 = .ok (.iastore, 1) := by decide +kernel
theorem d_M_statement_448 : decode m_M_statement.2.1 448 = .ok (.iload 4, 2) := by decide +kernel
theorem d_M_statement_450 : decode m_M_statement.2.1 450 = .ok (.istore_n 3, 1) := by decide +kernel
theorem d_M_statement_451 : decode m_M_statement.2.1 451 = .ok (.goto (-36), 3) := by decide +kernel
theorem d_M_statement_454 : decode m_M_statement.2.1 454 = .ok (.aload_n 0, 1) := by decide +kernel
theorem d_M_statement_455 : decode m_M_statement.2.1 455 = .ok (.dup, 1) := by decide +kernel
theorem d_M_statement_456 : decode m_M_statement.2.1 456 = .ok (.getfield 224, 3) := by decide +kernel
theorem d_M_statement_459 : decode m_M_statement.2.1 459 = .ok (.iconst 1, 1) := by decide +kernel
theorem d_M_statement_460 : decode m_M_statement.2.1 460 = .ok (.isub, 1) := by decide +kernel
theorem d_M_statement_461 : decode m_M_statement.2.1 461 = .ok (.putfield 224, 3) := by decide +kernel
theorem d_M_statement_464 : decode m_M_statement.2.1 464 = .ok (.aload_n 0, 1) := by decide +kernel
theorem d_M_statement_465 : decode m_M_statement.2.1 465 = .ok (.invokevirtual 234, 3) := by decide +kernel
theorem d_M_statement_468 : decode m_M_statement.2.1 468 = .ok (.istore_n 1, 1) := by decide +kernel
theorem d_M_statement_469 : decode m_M_statement.2.1 469 = .ok (.aload_n 0, 1) := by decide +kernel
theorem d_M_statement_470 : decode m_M_statement.2.1 470 = .ok (.sipush 275, 3) := by decide +kernel
theorem d_M_statement_473 : decode m_M_statement.2.1 473 = .ok (.iload_n 2, 1) := by decide +kernel
theorem d_M_statement_474 : decode m_M_statement.2.1 474 = .ok (.iconst 0, 1) := by decide +kernel
theorem d_M_statement_475 : decode m_M_statement.2.1 475 = .ok (.iconst 0, 1) := by decide +kernel
theorem d_M_statement_476 : decode m_M_statement.2.1 476 = .ok (.invokevirtual 270, 3) := by decide +kernel
theorem d_M_statement_479 : decode m_M_statement.2.1 479 = .ok (.ireturn, 1) := by decide +kernel
theorem d_M_statement_480 : decode m_M_statement.2.1 480 = .ok (.aload_n 0, 1) := by decide +kernel
theorem d_M_statement_481 : decode m_M_statement.2.1 481 = .ok (.invokevirtual 230, 3) := by decide +kernel
theorem d_M_statement_484 : decode m_M_statement.2.1 484 = .ok (.athrow, 1) := by decide +kernel
theorem d_M_expr_0 : decode m_M_expr.2.1 0 = .ok (.aload_n 0, 1) := by decide +kernel
theorem d_M_expr_1 : decode m_M_expr.2.1 1 = .ok (.iconst 1, 1) := by decide +kernel
theorem d_M_expr_2 : decode m_M_expr.2.1 2 = .ok (.invokevirtual 283, 3) := by decide +kernel
theorem d_M_expr_5 : decode m_M_expr.2.1 5 = .ok (.istore_n 1, 1) := by decide +kernel
theorem d_M_expr_6 : decode m_M_expr.2.1 6 = .ok (.aload_n 0, 1) := by decide +kernel
theorem d_M_expr_7 : decode m_M_expr.2.1 7 = .ok (.invokevirtual 227, 3) := by decide +kernel
theorem d_M_expr_10 : decode m_M_expr.2.1 10 = .ok (.bipush 63, 2) := by decide +kernel
theorem d_M_expr_12 : decode m_M_expr.2.1 12 = .ok (.if_icmp .eq 5, 3) := by decide +kernel
theorem d_M_expr_15 : decode m_M_expr.2.1 15 = .ok (.iload_n 1, 1) := by decide +kernel
theorem d_M_expr_16 : decode m_M_expr.2.1 16 = .ok (.ireturn, 1) := by decide +kernel
theorem d_M_expr_17 : decode m_M_expr.2.1 17 = .ok (.aload_n 0, 1) := by decide +kernel
theorem d_M_expr_18 : decode m_M_expr.2.1 18 = .ok (.invokevirtual 234, 3) := by decide +kernel
theorem d_M_expr_21 : decode m_M_expr.2.1 21 = .ok (.istore_n 2, 1) := by decide +kernel
theorem d_M_expr_22 : decode m_M_expr.2.1 22 = .ok (.aload_n 0, 1) := by decide +kernel
theorem d_M_expr_23 : decode m_M_expr.2.1 23 = .ok (.dup, 1) := by decide +kernel
theorem d_M_expr_24 : decode m_M_expr.2.1 24 = .ok (.getfield 224, 3) := by decide +kernel
theorem d_M_expr_27 : decode m_M_expr.2.1 27 = .ok (.iconst 1, 1) := by decide +kernel
theorem d_M_expr_28 : decode m_M_expr.2.1 28 = .ok (.iadd, 1) := by decide +kernel
theorem d_M_expr_29 : decode m_M_expr.2.1 29 = .ok (.putfield 224, 3) := by decide +kernel
theorem d_M_expr_32 : decode m_M_expr.2.1 32 = .ok (.aload_n 0, 1) := by decide +kernel
theorem d_M_expr_33 : decode m_M_expr.2.1 33 = .ok (.invokevirtual 267, 3) := by decide +kernel
theorem d_M_expr_36 : decode m_M_expr.2.1 36 = .ok (.istore_n 3, 1) := by decide +kernel
theorem d_M_expr_37 : decode m_M_expr.2.1 37 = .ok (.aload_n 0, 1) := by decide +kernel
theorem d_M_expr_38 : decode m_M_expr.2.1 38 = .ok (.dup, 1) := by decide +kernel
theorem d_M_expr_39 : decode m_M_expr.2.1 39 = .ok (.getfield 224, 3) := by decide +kernel
theorem d_M_expr_42 : decode m_M_expr.2.1 42 = .ok (.iconst 1, 1) := by decide +kernel
theorem d_M_expr_43 : decode m_M_expr.2.1 43 = .ok (.isub, 1) := by decide +kernel
theorem d_M_expr_44 : decode m_M_expr.2.1 44 = .ok (.putfield 224, 3) := by decide +kernel
theorem d_M_expr_47 : decode m_M_expr.2.1 47 = .ok (.aload_n 0, 1) := by decide +kernel
theorem d_M_expr_48 : decode m_M_expr.2.1 48 = .ok (.bipush 58, 2) := by decide +kernel
theorem d_M_expr_50 : decode m_M_expr.2.1 50 = .ok (.invokevirtual 249, 3) := by decide +kernel
theorem d_M_expr_53 : decode m_M_expr.2.1 53 = .ok (.istore_n 2, 1) := by decide +kernel
theorem d_M_expr_54 : decode m_M_expr.2.1 54 = .ok (.aload_n 0, 1) := by decide +kernel
theorem d_M_expr_55 : decode m_M_expr.2.1 55 = .ok (.dup, 1) := by decide +kernel
theorem d_M_expr_56 : decode m_M_expr.2.1 56 = .ok (.getfield 224, 3) := by decide +kernel
theorem d_M_expr_59 : decode m_M_expr.2.1 59 = .ok (.iconst 1, 1) := by decide +kernel
theorem d_M_expr_60 : decode m_M_expr.2.1 60 = .ok (.iadd, 1) := by decide +kernel
theorem d_M_expr_61 : decode m_M_expr.2.1 61 = .ok (.putfield 224, 3) := by decide +kernel
theorem d_M_expr_64 : decode m_M_expr.2.1 64 = .ok (.aload_n 0, 1) := by decide +kernel
theorem d_M_expr_65 : decode m_M_expr.2.1 65 = .ok (.invokevirtual 267, 3) := by decide +kernel
theorem d_M_expr_68 : decode m_M_expr.2.1 68 = .ok (.istore 4, 2) := by decide +kernel
theorem d_M_expr_70 : decode m_M_expr.2.1 70 = .ok (.aload_n 0, 1) := by decide +kernel
theorem d_M_expr_71 : decode m_M_expr.2.1 71 = .ok (.dup, 1) := by decide +kernel
theorem d_M_expr_72 : decode m_M_expr.2.1 72 = .ok (.getfield 224, 3) := by decide +kernel
theorem d_M_expr_75 : decode m_M_expr.2.1 75 = .ok (.iconst 1, 1) := by decide +kernel
theorem d_M_expr_76 : decode m_M_expr.2.1 76 = .ok (.isub, 1) := by decide +kernel
theorem d_M_expr_77 : decode m_M_expr.2.1 77 = .ok (.putfield 224, 3) := by decide +kernel
theorem d_M_expr_80 : decode m_M_expr.2.1 80 = .ok (.aload_n 0, 1) := by decide +kernel
theorem d_M_expr_81 : decode m_M_expr.2.1 81 = .ok (.sipush 277, 3) := by decide +kernel
theorem d_M_expr_84 : decode m_M_expr.2.1 84 = .ok (.iload_n 1, 1) := by decide +kernel
theorem d_M_expr_85 : decode m_M_expr.2.1 85 = .ok (.iload_n 3, 1) := by decide +kernel
theorem d_M_expr_86 : decode m_M_expr.2.1 86 = .ok (.iload 4, 2) := by decide +kernel
theorem d_M_expr_88 : decode m_M_expr.2.1 88 = .ok (.invokevirtual 270, 3) := by decide +kernel
theorem d_M_expr_91 : decode m_M_expr.2.1 91 = .ok (.istore 5, 2) := by decide +kernel
theorem d_M_expr_93 : decode m_M_expr.2.1 93 = .ok (.aload_n 0, 1) := by decide +kernel
theorem d_M_expr_94 : decode m_M_expr.2.1 94 = .ok (.getfield 76, 3) := by decide +kernel
theorem d_M_expr_97 : decode m_M_expr.2.1 97 = .ok (.iload 5, 2) := by decide +kernel
theorem d_M_expr_99 : decode m_M_expr.2.1 99 = .ok (.aload_n 0, 1) := by decide +kernel
theorem d_M_expr_100 : decode m_M_expr.2.1 100 = .ok (.getfield 76, 3) := by decide +kernel
theorem d_M_expr_103 : decode m_M_expr.2.1 103 = .ok (.iload_n 3, 1) := by decide +kernel
theorem d_M_expr_104 : decode m_M_expr.2.1 104 = .ok (.iaload, 1) := by decide +kernel
theorem d_M_expr_105 : decode m_M_expr.2.1 105 = .ok (.aload_n 0, 1) := by decide +kernel
theorem d_M_expr_106 : decode m_M_expr.2.1 106 = .ok (.getfield 76, 3) := by decide +kernel
theorem d_M_expr_109 : decode m_M_expr.2.1 109 = .ok (.iload 4, 2) := by decide +kernel
theorem d_M_expr_111 : decode m_M_expr.2.1 111 = .ok (.iaload, 1) := by decide +kernel
theorem d_M_expr_112 : decode m_M_expr.2.1 112 = .ok (.invokestatic 286, 3) := by decide +kernel
theorem d_M_expr_115 : decode m_M_expr.2.1 115 = .ok (.iastore, 1) := by decide +kernel
theorem d_M_expr_116 : decode m_M_expr.2.1 116 = .ok (.iload 5, 2) := by decide +kernel
theorem d_M_expr_118 : decode m_M_expr.2.1 118 = .ok (.ireturn, 1) := by decide +kernel
theorem d_M_level_0 : decode m_M_level.2.1 0 = .ok (.iload_n 1, 1) := by decide +kernel
theorem d_M_level_1 : decode m_M_level.2.1 1 = .ok (.bipush 11, 2) := by decide +kernel
theorem d_M_level_3 : decode m_M_level.2.1 3 = .ok (.if_icmp .ne 8, 3) := by decide +kernel
theorem d_M_level_6 : decode m_M_level.2.1 6 = .ok (.aload_n 0, 1) := by decide +kernel
theorem d_M_level_7 : decode m_M_level.2.1 7 = .ok (.invokevirtual 289, 3) := by decide +kernel
theorem d_M_level_10 : decode m_M_level.2.1 10 = .ok (.ireturn, 1) := by decide +kernel
theorem d_M_level_11 : decode m_M_level.2.1 11 = .ok (.aload_n 0, 1) := by decide +kernel
theorem d_M_level_12 : decode m_M_level.2.1 12 = .ok (.iload_n 1, 1) := by decide +kernel
theorem d_M_level_13 : decode m_M_level.2.1 13 = .ok (.iconst 1, 1) := by decide +kernel
theorem d_M_level_14 : decode m_M_level.2.1 14 = .ok (.iadd, 1) := by decide +kernel
theorem d_M_level_15 : decode m_M_level.2.1 15 = .ok (.invokevirtual 283, 3) := by decide +kernel
theorem d_M_level_18 : decode m_M_level.2.1 18 = .ok (.istore_n 2, 1) := by decide +kernel
theorem d_M_level_19 : decode m_M_level.2.1 19 = .ok (.aload_n 0, 1) := by decide +kernel
theorem d_M_level_20 : decode m_M_level.2.1 20 = .ok (.invokevirtual 227, 3) := by decide +kernel
theorem d_M_level_23 : decode m_M_level.2.1 23 = .ok (.invokestatic 292, 3) := by decide +kernel
theorem d_M_level_26 : decode m_M_level.2.1 26 = .ok (.iload_n 1, 1) := by decide +kernel
theorem d_M_level_27 : decode m_M_level.2.1 27 = .ok (.if_icmp .ne 111, 3) := by decide +kernel
theorem d_M_level_30 : decode m_M_level.2.1 30 = .ok (.aload_n 0, 1) := by decide +kernel
theorem d_M_level_31 : decode m_M_level.2.1 31 = .ok (.invokevirtual 227, 3) := by decide +kernel
theorem d_M_level_34 : decode m_M_level.2.1 34 = .ok (.istore_n 3, 1) := by decide +kernel
theorem d_M_level_35 : decode m_M_level.2.1 35 = .ok (.aload_n 0, 1) := by decide +kernel
theorem d_M_level_36 : decode m_M_level.2.1 36 = .ok (.invokevirtual 234, 3) := by decide +kernel
theorem d_M_level_39 : decode m_M_level.2.1 39 = .ok (.istore 4, 2) := by decide +kernel
theorem d_M_level_41 : decode m_M_level.2.1 41 = .ok (.aload_n 0, 1) := by decide +kernel
theorem d_M_level_42 : decode m_M_level.2.1 42 = .ok (.iload_n 1, 1) := by decide +kernel
theorem d_M_level_43 : decode m_M_level.2.1 43 = .ok (.iconst 1, 1) := by decide +kernel
theorem d_M_level_44 : decode m_M_level.2.1 44 = .ok (.iadd, 1) := by decide +kernel
theorem d_M_level_45 : decode m_M_level.2.1 45 = .ok (.invokevirtual 283, 3) := by decide +kernel
theorem d_M_level_48 : decode m_M_level.2.1 48 = .ok (.istore 5, 2) := by decide +kernel
theorem d_M_level_50 : decode m_M_level.2.1 50 = .ok (.aload_n 0, 1) := by decide +kernel
theorem d_M_level_51 : decode m_M_level.2.1 51 = .ok (.iload_n 3, 1) := by decide +kernel
theorem d_M_level_52 : decode m_M_level.2.1 52 = .ok (.iload_n 2, 1) := by decide +kernel
theorem d_M_level_53 : decode m_M_level.2.1 53 = .ok (.iload 5, 2) := by decide +kernel
theorem d_M_level_55 : decode m_M_level.2.1 55 = .ok (.iconst 0, 1) := by decide +kernel
theorem d_M_level_56 : decode m_M_level.2.1 56 = .ok (.invokevirtual 270, 3) := by decide +kernel
theorem d_M_level_59 : decode m_M_level.2.1 59 = .ok (.istore 6, 2) := by decide +kernel
theorem d_M_level_61 : decode m_M_level.2.1 61 = .ok (.iload_n 1, 1) := by decide +kernel
theorem d_M_level_62 : decode m_M_level.2.1 62 = .ok (.iconst 2, 1) := by decide +kernel
theorem d_M_level_63 : decode m_M_level.2.1 63 = .ok (.if_icmp .le 15, 3) := by decide +kernel
theorem d_M_level_66 : decode m_M_level.2.1 66 = .ok (.iload_n 1, 1) := by decide +kernel
theorem d_M_level_67 : decode m_M_level.2.1 67 = .ok (.bipush 6, 2) := by decide +kernel
theorem d_M_level_69 : decode m_M_level.2.1 69 = .ok (.if_icmp .eq 9, 3) := by decide +kernel
theorem d_M_level_72 : decode m_M_level.2.1 72 = .ok (.iload_n 1, 1) := by decide +kernel
theorem d_M_level_73 : decode m_M_level.2.1 73 = .ok (.bipush 7, 2) := by decide +kernel
theorem d_M_level_75 : decode m_M_level.2.1 75 = .ok (.if_icmp .ne 7, 3) := by decide +kernel
theorem d_M_level_78 : decode m_M_level.2.1 78 = .ok (.iconst 1, 1) := by decide +kernel
theorem d_M_level_79 : decode m_M_level.2.1 79 = .ok (.goto 4, 3) := by decide +kernel
theorem d_M_level_82 : decode m_M_level.2.1 82 = .ok (.iconst 0, 1) := by decide +kernel
theorem d_M_level_83 : decode m_M_level.2.1 83 = .ok (.istore 7, 2) := by decide +kernel
theorem d_M_level_85 : decode m_M_level.2.1 85 = .ok (.aload_n 0, 1) := by decide +kernel
theorem d_M_level_86 : decode m_M_level.2.1 86 = .ok (.getfield 76, 3) := by decide +kernel
theorem d_M_level_89 : decode m_M_level.2.1 89 = .ok (.iload 6, 2) := by decide +kernel
theorem d_M_level_91 : decode m_M_level.2.1 91 = .ok (.iload 7, 2) := by decide +kernel
theorem d_M_level_93 : decode m_M_level.2.1 93 = .ok (.ifCond .eq 7, 3) := by decide +kernel
theorem d_M_level_96 : decode m_M_level.2.1 96 = .ok (.iconst 1, 1) := by decide +kernel
theorem d_M_level_97 : decode m_M_level.2.1 97 = .ok (.goto 34, 3) := by decide +kernel
theorem d_M_level_100 : decode m_M_level.2.1 100 = .ok (.iload_n 1, 1) := by decide +kernel
theorem d_M_level_101 : decode m_M_level.2.1 101 = .ok (.bipush 8, 2) := by decide +kernel
theorem d_M_level_103 : decode m_M_level.2.1 103 = .ok (.if_icmp .ne 12, 3) := by decide +kernel
theorem d_M_level_106 : decode m_M_level.2.1 106 = .ok (.aload_n 0, 1) := by decide +kernel
theorem d_M_level_107 : decode m_M_level.2.1 107 = .ok (.getfield 76, 3) := by decide +kernel
theorem d_M_level_110 : decode m_M_level.2.1 110 = .ok (.iload_n 2, 1) := by decide +kernel
theorem d_M_level_111 : decode m_M_level.2.1 111 = .ok (.iaload, 1) := by decide +kernel
theorem d_M_level_112 : decode m_M_level.2.1 112 = .ok (.goto 19, 3) := by decide +kernel
theorem d_M_level_115 : decode m_M_level.2.1 115 = .ok (.aload_n 0, 1) := by decide +kernel
theorem d_M_level_116 : decode m_M_level.2.1 116 = .ok (.getfield 76, 3) := by decide +kernel
theorem d_M_level_119 : decode m_M_level.2.1 119 = .ok (.iload_n 2, 1) := by decide +kernel
theorem d_M_level_120 : decode m_M_level.2.1 120 = .ok (.iaload, 1) := by decide +kernel
theorem d_M_level_121 : decode m_M_level.2.1 121 = .ok (.aload_n 0, 1) := by decide +kernel
theorem d_M_level_122 : decode m_M_level.2.1 122 = .ok (.getfield 76, 3) := by decide +kernel
theorem d_M_level_125 : decode m_M_level.2.1 125 = .ok (.iload 5, 2) := by decide +kernel
theorem d_M_level_127 : decode m_M_level.2.1 127 = .ok (.iaload, 1) := by decide +kernel
theorem d_M_level_128 : decode m_M_level.2.1 128 = .ok (.invokestatic 286, 3) := by decide +kernel
theorem d_M_level_131 : decode m_M_level.2.1 131 = .ok (.iastore, 1) := by decide +kernel
theorem d_M_level_132 : decode m_M_level.2.1 132 = .ok (.iload 6, 2) := by decide +kernel
theorem d_M_level_134 : decode m_M_level.2.1 134 = .ok (.istore_n 2, 1) := by decide +kernel
theorem d_M_level_135 : decode m_M_level.2.1 135 = .ok (.goto (-116), 3) := by decide +kernel
theorem d_M_level_138 : decode m_M_level.2.1 138 = .ok (.iload_n 2, 1) := by decide +kernel
theorem d_M_level_139 : decode m_M_level.2.1 139 = .ok (.ireturn, 1) := by decide +kernel
theorem d_M_unary_0 : decode m_M_unary.2.1 0 = .ok (.aload_n 0, 1) := by decide +kernel
theorem d_M_unary_1 : decode m_M_unary.2.1 1 = .ok (.invokevirtual 227, 3) := by decide +kernel
theorem d_M_unary_4 : decode m_M_unary.2.1 4 = .ok (.istore_n 1, 1) := by decide +kernel
theorem d_M_unary_5 : decode m_M_unary.2.1 5 = .ok (.iload_n 1, 1) := by decide +kernel
theorem d_M_unary_6 : decode m_M_unary.2.1 6 = .ok (.bipush 33, 2) := by decide +kernel
theorem d_M_unary_8 : decode m_M_unary.2.1 8 = .ok (.if_icmp .eq 15, 3) := by decide +kernel
theorem d_M_unary_11 : decode m_M_unary.2.1 11 = .ok (.iload_n 1, 1) := by decide +kernel
theorem d_M_unary_12 : decode m_M_unary.2.1 12 = .ok (.bipush 126, 2) := by decide +kernel
theorem d_M_unary_14 : decode m_M_unary.2.1 14 = .ok (.if_icmp .eq 9, 3) := by decide +kernel
theorem d_M_unary_17 : decode m_M_unary.2.1 17 = .ok (.iload_n 1, 1) := by decide +kernel
theorem d_M_unary_18 : decode m_M_unary.2.1 18 = .ok (.bipush 45, 2) := by decide +kernel
theorem d_M_unary_20 : decode m_M_unary.2.1 20 = .ok (.if_icmp .ne 81, 3) := by decide +kernel
theorem d_M_unary_23 : decode m_M_unary.2.1 23 = .ok (.aload_n 0, 1) := by decide +kernel
theorem d_M_unary_24 : decode m_M_unary.2.1 24 = .ok (.invokevirtual 234, 3) := by decide +kernel
theorem d_M_unary_27 : decode m_M_unary.2.1 27 = .ok (.istore_n 2, 1) := by decide +kernel
theorem d_M_unary_28 : decode m_M_unary.2.1 28 = .ok (.aload_n 0, 1) := by decide +kernel
theorem d_M_unary_29 : decode m_M_unary.2.1 29 = .ok (.dup, 1) := by decide +kernel
theorem d_M_unary_30 : decode m_M_unary.2.1 30 = .ok (.getfield 224, 3) := by decide +kernel
theorem d_M_unary_33 : decode m_M_unary.2.1 33 = .ok (.iconst 1, 1) := by decide +kernel
theorem d_M_unary_34 : decode m_M_unary.2.1 34 = .ok (.iadd, 1) := by decide +kernel
theorem d_M_unary_35 : decode m_M_unary.2.1 35 = .ok (.putfield 224, 3) := by decide +kernel
theorem d_M_unary_38 : decode m_M_unary.2.1 38 = .ok (.aload_n 0, 1) := by decide +kernel
theorem d_M_unary_39 : decode m_M_unary.2.1 39 = .ok (.invokevirtual 289, 3) := by decide +kernel
theorem d_M_unary_42 : decode m_M_unary.2.1 42 = .ok (.istore_n 3, 1) := by decide +kernel
theorem d_M_unary_43 : decode m_M_unary.2.1 43 = .ok (.aload_n 0, 1) := by decide +kernel
theorem d_M_unary_44 : decode m_M_unary.2.1 44 = .ok (.dup, 1) := by decide +kernel
theorem d_M_unary_45 : decode m_M_unary.2.1 45 = .ok (.getfield 224, 3) := by decide +kernel
theorem d_M_unary_48 : decode m_M_unary.2.1 48 = .ok (.iconst 1, 1) := by decide +kernel
theorem d_M_unary_49 : decode m_M_unary.2.1 49 = .ok (.isub, 1) := by decide +kernel
theorem d_M_unary_50 : decode m_M_unary.2.1 50 = .ok (.putfield 224, 3) := by decide +kernel
theorem d_M_unary_53 : decode m_M_unary.2.1 53 = .ok (.aload_n 0, 1) := by decide +kernel
theorem d_M_unary_54 : decode m_M_unary.2.1 54 = .ok (.iload_n 1, 1) := by decide +kernel
theorem d_M_unary_55 : decode m_M_unary.2.1 55 = .ok (.bipush 45, 2) := by decide +kernel
theorem d_M_unary_57 : decode m_M_unary.2.1 57 = .ok (.if_icmp .ne 9, 3) := by decide +kernel
theorem d_M_unary_60 : decode m_M_unary.2.1 60 = .ok (.sipush 278, 3) := by decide +kernel
theorem d_M_unary_63 : decode m_M_unary.2.1 63 = .ok (.goto 4, 3) := by decide +kernel
theorem d_M_unary_66 : decode m_M_unary.2.1 66 = .ok (.iload_n 1, 1) := by decide +kernel
theorem d_M_unary_67 : decode m_M_unary.2.1 67 = .ok (.iload_n 3, 1) := by decide +kernel
theorem d_M_unary_68 : decode m_M_unary.2.1 68 = .ok (.iconst 0, 1) := by decide +kernel
theorem d_M_unary_69 : decode m_M_unary.2.1 69 = .ok (.iconst 0, 1) := by decide +kernel
theorem d_M_unary_70 : decode m_M_unary.2.1 70 = .ok (.invokevirtual 270, 3) := by decide +kernel
theorem d_M_unary_73 : decode m_M_unary.2.1 73 = .ok (.istore 4, 2) := by decide +kernel
theorem d_M_unary_75 : decode m_M_unary.2.1 75 = .ok (.aload_n 0, 1) := by decide +kernel
theorem d_M_unary_76 : decode m_M_unary.2.1 76 = .ok (.getfield 76, 3) := by decide +kernel
theorem d_M_unary_79 : decode m_M_unary.2.1 79 = .ok (.iload 4, 2) := by decide +kernel
theorem d_M_unary_81 : decode m_M_unary.2.1 81 = .ok (.iload_n 1, 1) := by decide +kernel
theorem d_M_unary_82 : decode m_M_unary.2.1 82 = .ok (.bipush 33, 2) := by decide +kernel
theorem d_M_unary_84 : decode m_M_unary.2.1 84 = .ok (.if_icmp .ne 7, 3) := by decide +kernel
theorem d_M_unary_87 : decode m_M_unary.2.1 87 = .ok (.iconst 1, 1) := by decide +kernel
theorem d_M_unary_88 : decode m_M_unary.2.1 88 = .ok (.goto 9, 3) := by decide +kernel
theorem d_M_unary_91 : decode m_M_unary.2.1 91 = .ok (.aload_n 0, 1) := by decide +kernel
theorem d_M_unary_92 : decode m_M_unary.2.1 92 = .ok (.getfield 76, 3) := by decide +kernel
theorem d_M_unary_95 : decode m_M_unary.2.1 95 = .ok (.iload_n 3, 1) := by decide +kernel
theorem d_M_unary_96 : decode m_M_unary.2.1 96 = .ok (.iaload, 1) := by decide +kernel
theorem d_M_unary_97 : decode m_M_unary.2.1 97 = .ok (.iastore, 1) := by decide +kernel
theorem d_M_unary_98 : decode m_M_unary.2.1 98 = .ok (.iload 4, 2) := by decide +kernel
theorem d_M_unary_100 : decode m_M_unary.2.1 100 = .ok (.ireturn, 1) := by decide +kernel
theorem d_M_unary_101 : decode m_M_unary.2.1 101 = .ok (.iload_n 1, 1) := by decide +kernel
theorem d_M_unary_102 : decode m_M_unary.2.1 102 = .ok (.bipush 40, 2) := by decide +kernel
theorem d_M_unary_104 : decode m_M_unary.2.1 104 = .ok (.if_icmp .ne 8, 3) := by decide +kernel
theorem d_M_unary_107 : decode m_M_unary.2.1 107 = .ok (.aload_n 0, 1) := by decide +kernel
theorem d_M_unary_108 : decode m_M_unary.2.1 108 = .ok (.invokevirtual 274, 3) := by decide +kernel
theorem d_M_unary_111 : decode m_M_unary.2.1 111 = .ok (.ireturn, 1) := by decide +kernel
theorem d_M_unary_112 : decode m_M_unary.2.1 112 = .ok (.iload_n 1, 1) := by decide +kernel
theorem d_M_unary_113 : decode m_M_unary.2.1 113 = .ok (.sipush 264, 3) := by decide +kernel
theorem d_M_unary_116 : decode m_M_unary.2.1 116 = .ok (.if_icmp .ne 43, 3) := by decide +kernel
theorem d_M_unary_119 : decode m_M_unary.2.1 119 = .ok (.aload_n 0, 1) := by decide +kernel
theorem d_M_unary_120 : decode m_M_unary.2.1 120 = .ok (.getfield 20, 3) := by decide +kernel
theorem d_M_unary_123 : decode m_M_unary.2.1 123 = .ok (.aload_n 0, 1) := by decide +kernel
theorem d_M_unary_124 : decode m_M_unary.2.1 124 = .ok (.invokevirtual 234, 3) := by decide +kernel
theorem d_M_unary_127 : decode m_M_unary.2.1 127 = .ok (.iaload, 1) := by decide +kernel
theorem d_M_unary_128 : decode m_M_unary.2.1 128 = .ok (.istore_n 2, 1) := by decide +kernel
theorem d_M_unary_129 : decode m_M_unary.2.1 129 = .ok (.aload_n 0, 1) := by decide +kernel
theorem d_M_unary_130 : decode m_M_unary.2.1 130 = .ok (.sipush 264, 3) := by decide +kernel
theorem d_M_unary_133 : decode m_M_unary.2.1 133 = .ok (.iload_n 2, 1) := by decide +kernel
theorem d_M_unary_134 : decode m_M_unary.2.1 134 = .ok (.iconst 0, 1) := by decide +kernel
theorem d_M_unary_135 : decode m_M_unary.2.1 135 = .ok (.iconst 0, 1) := by decide +kernel
theorem d_M_unary_136 : decode m_M_unary.2.1 136 = .ok (.invokevirtual 270, 3) := by decide +kernel
theorem d_M_unary_139 : decode m_M_unary.2.1 139 = .ok (.istore_n 3, 1) := by decide +kernel
theorem d_M_unary_140 : decode m_M_unary.2.1 140 = .ok (.aload_n 0, 1) := by decide +kernel
theorem d_M_unary_141 : decode m_M_unary.2.1 141 = .ok (.getfield 76, 3) := by decide +kernel
theorem d_M_unary_144 : decode m_M_unary.2.1 144 = .ok (.iload_n 3, 1) := by decide +kernel
theorem d_M_unary_145 : decode m_M_unary.2.1 145 = .ok (.iconst 1, 1) := by decide +kernel
theorem d_M_unary_146 : decode m_M_unary.2.1 146 = .ok (.bipush 32, 2) := by decide +kernel
theorem d_M_unary_148 : decode m_M_unary.2.1 148 = .ok (.iload_n 2, 1) := by decide +kernel
theorem d_M_unary_149 : decode m_M_unary.2.1 149 = .ok (.invokestatic 295, 3) := by decide +kernel
theorem d_M_unary_152 : decode m_M_unary.2.1 152 = .ok (.isub, 1) := by decide +kernel
theorem d_M_unary_153 : decode m_M_unary.2.1 153 = .ok (.invokestatic 286, 3) := by decide +kernel
theorem d_M_unary_156 : decode m_M_unary.2.1 156 = .ok (.iastore, 1) := by decide +kernel
theorem d_M_unary_157 : decode m_M_unary.2.1 157 = .ok (.iload_n 3, 1) := by decide +kernel
theorem d_M_unary_158 : decode m_M_unary.2.1 158 = .ok (.ireturn, 1) := by decide +kernel
theorem d_M_unary_159 : decode m_M_unary.2.1 159 = .ok (.aload_n 0, 1) := by decide +kernel
theorem d_M_unary_160 : decode m_M_unary.2.1 160 = .ok (.sipush 263, 3) := by decide +kernel
theorem d_M_unary_163 : decode m_M_unary.2.1 163 = .ok (.invokevirtual 249, 3) := by decide +kernel
theorem d_M_unary_166 : decode m_M_unary.2.1 166 = .ok (.istore_n 2, 1) := by decide +kernel
theorem d_M_unary_167 : decode m_M_unary.2.1 167 = .ok (.aload_n 0, 1) := by decide +kernel
theorem d_M_unary_168 : decode m_M_unary.2.1 168 = .ok (.aload_n 0, 1) := by decide +kernel
theorem d_M_unary_169 : decode m_M_unary.2.1 169 = .ok (.getfield 23, 3) := by decide +kernel
theorem d_M_unary_172 : decode m_M_unary.2.1 172 = .ok (.iload_n 2, 1) := by decide +kernel
theorem d_M_unary_173 : decode m_M_unary.2.1 173 = .ok (.laload, 1) := by decide +kernel
theorem d_M_unary_174 : decode m_M_unary.2.1 174 = .ok (.invokevirtual 252, 3) := by decide +kernel
theorem d_M_unary_177 : decode m_M_unary.2.1 177 = .ok (.istore_n 3, 1) := by decide +kernel
theorem d_M_unary_178 : decode m_M_unary.2.1 178 = .ok (.iload_n 3, 1) := by decide +kernel
theorem d_M_unary_179 : decode m_M_unary.2.1 179 = .ok (.ifCond .ge 9, 3) := by decide +kernel
theorem d_M_unary_182 : decode m_M_unary.2.1 182 = .ok (.aload_n 0, 1) := by decide +kernel
theorem d_M_unary_183 : decode m_M_unary.2.1 183 = .ok (.iconst 2, 1) := by decide +kernel
theorem d_M_unary_184 : decode m_M_unary.2.1 184 = .ok (.iload_n 2, 1) := by decide +kernel
theorem d_M_unary_185 : decode m_M_unary.2.1 185 = .ok (.invokevirtual 255, 3) := by decide +kernel
theorem d_M_unary_188 : decode m_M_unary.2.1 188 = .ok (.aload_n 0, 1) := by decide +kernel
theorem d_M_unary_189 : decode m_M_unary.2.1 189 = .ok (.sipush 263, 3) := by decide +kernel
theorem d_M_unary_192 : decode m_M_unary.2.1 192 = .ok (.iload_n 3, 1) := by decide +kernel
theorem d_M_unary_193 : decode m_M_unary.2.1 193 = .ok (.ifCond .ge 7, 3) := by decide +kernel
theorem d_M_unary_196 : decode m_M_unary.2.1 196 = .ok (.iconst 0, 1) := by decide +kernel
theorem d_M_unary_197 : decode m_M_unary.2.1 197 = .ok (.goto 9, 3) := by decide +kernel
theorem d_M_unary_200 : decode m_M_unary.2.1 200 = .ok (.aload_n 0, 1) := by decide +kernel
theorem d_M_unary_201 : decode m_M_unary.2.1 201 = .ok (.getfield 43, 3) := by decide +kernel
theorem d_M_unary_204 : decode m_M_unary.2.1 204 = .ok (.iload_n 3, 1) := by decide +kernel
theorem d_M_unary_205 : decode m_M_unary.2.1 205 = .ok (.iaload, 1) := by decide +kernel
theorem d_M_unary_206 : decode m_M_unary.2.1 206 = .ok (.iload_n 3, 1) := by decide +kernel
theorem d_M_unary_207 : decode m_M_unary.2.1 207 = .ok (.ifCond .ge 7, 3) := by decide +kernel
theorem d_M_unary_210 : decode m_M_unary.2.1 210 = .ok (.iconst 0, 1) := by decide +kernel
theorem d_M_unary_211 : decode m_M_unary.2.1 211 = .ok (.goto 9, 3) := by decide +kernel
theorem d_M_unary_214 : decode m_M_unary.2.1 214 = .ok (.aload_n 0, 1) := by decide +kernel
theorem d_M_unary_215 : decode m_M_unary.2.1 215 = .ok (.getfield 40, 3) := by decide +kernel
theorem d_M_unary_218 : decode m_M_unary.2.1 218 = .ok (.iload_n 3, 1) := by decide +kernel
theorem d_M_unary_219 : decode m_M_unary.2.1 219 = .ok (.iaload, 1) := by decide +kernel
theorem d_M_unary_220 : decode m_M_unary.2.1 220 = .ok (.iconst 0, 1) := by decide +kernel
theorem d_M_unary_221 : decode m_M_unary.2.1 221 = .ok (.invokevirtual 270, 3) := by decide +kernel
theorem d_M_unary_224 : decode m_M_unary.2.1 224 = .ok (.istore 4, 2) := by decide +kernel
theorem d_M_unary_226 : decode m_M_unary.2.1 226 = .ok (.aload_n 0, 1) := by decide +kernel
theorem d_M_unary_227 : decode m_M_unary.2.1 227 = .ok (.getfield 76, 3) := by decide +kernel
theorem d_M_unary_230 : decode m_M_unary.2.1 230 = .ok (.iload 4, 2) := by decide +kernel
theorem d_M_unary_232 : decode m_M_unary.2.1 232 = .ok (.iload_n 3, 1) := by decide +kernel
theorem d_M_unary_233 : decode m_M_unary.2.1 233 = .ok (.ifCond .ge 7, 3) := by decide +kernel
theorem d_M_unary_236 : decode m_M_unary.2.1 236 = .ok (.iconst 1, 1) := by decide +kernel
theorem d_M_unary_237 : decode m_M_unary.2.1 237 = .ok (.goto 9, 3) := by decide +kernel
theorem d_M_unary_240 : decode m_M_unary.2.1 240 = .ok (.aload_n 0, 1) := by decide +kernel
theorem d_M_unary_241 : decode m_M_unary.2.1 241 = .ok (.getfield 46, 3) := by decide +kernel
theorem d_M_unary_244 : decode m_M_unary.2.1 244 = .ok (.iload_n 3, 1) := by decide +kernel
theorem d_M_unary_245 : decode m_M_unary.2.1 245 = .ok (.iaload, 1) := by decide +kernel
theorem d_M_unary_246 : decode m_M_unary.2.1 246 = .ok (.iastore, 1) := by decide +kernel
theorem d_M_unary_247 : decode m_M_unary.2.1 247 = .ok (.iload 4, 2) := by decide +kernel
theorem d_M_unary_249 : decode m_M_unary.2.1 249 = .ok (.ireturn, 1) := by decide +kernel
theorem d_M_node_0 : decode m_M_node.2.1 0 = .ok (.aload_n 0, 1) := by decide +kernel
theorem d_M_node_1 : decode m_M_node.2.1 1 = .ok (.getfield 61, 3) := by decide +kernel
theorem d_M_node_4 : decode m_M_node.2.1 4 = .ok (.aload_n 0, 1) := by decide +kernel
theorem d_M_node_5 : decode m_M_node.2.1 5 = .ok (.getfield 243, 3) := by decide +kernel
theorem d_M_node_8 : decode m_M_node.2.1 8 = .ok (.iload_n 1, 1) := by decide +kernel
theorem d_M_node_9 : decode m_M_node.2.1 9 = .ok (.iastore, 1) := by decide +kernel
theorem d_M_node_10 : decode m_M_node.2.1 10 = .ok (.aload_n 0, 1) := by decide +kernel
theorem d_M_node_11 : decode m_M_node.2.1 11 = .ok (.getfield 64, 3) := by decide +kernel
theorem d_M_node_14 : decode m_M_node.2.1 14 = .ok (.aload_n 0, 1) := by decide +kernel
theorem d_M_node_15 : decode m_M_node.2.1 15 = .ok (.getfield 243, 3) := by decide +kernel
theorem d_M_node_18 : decode m_M_node.2.1 18 = .ok (.iload_n 2, 1) := by decide +kernel
theorem d_M_node_19 : decode m_M_node.2.1 19 = .ok (.iastore, 1) := by decide +kernel
theorem d_M_node_20 : decode m_M_node.2.1 20 = .ok (.aload_n 0, 1) := by decide +kernel
theorem d_M_node_21 : decode m_M_node.2.1 21 = .ok (.getfield 67, 3) := by decide +kernel
theorem d_M_node_24 : decode m_M_node.2.1 24 = .ok (.aload_n 0, 1) := by decide +kernel
theorem d_M_node_25 : decode m_M_node.2.1 25 = .ok (.getfield 243, 3) := by decide +kernel
theorem d_M_node_28 : decode m_M_node.2.1 28 = .ok (.iload_n 3, 1) := by decide +kernel
theorem d_M_node_29 : decode m_M_node.2.1 29 = .ok (.iastore, 1) := by decide +kernel
theorem d_M_node_30 : decode m_M_node.2.1 30 = .ok (.aload_n 0, 1) := by decide +kernel
theorem d_M_node_31 : decode m_M_node.2.1 31 = .ok (.getfield 70, 3) := by decide +kernel
theorem d_M_node_34 : decode m_M_node.2.1 34 = .ok (.aload_n 0, 1) := by decide +kernel
theorem d_M_node_35 : decode m_M_node.2.1 35 = .ok (.getfield 243, 3) := by decide +kernel
theorem d_M_node_38 : decode m_M_node.2.1 38 = .ok (.iload 4, 2) := by decide +kernel
theorem d_M_node_40 : decode m_M_node.2.1 40 = .ok (.iastore, 1) := by decide +kernel
theorem d_M_node_41 : decode m_M_node.2.1 41 = .ok (.aload_n 0, 1) := by decide +kernel
theorem d_M_node_42 : decode m_M_node.2.1 42 = .ok (.getfield 73, 3) := by decide +kernel
theorem d_M_node_45 : decode m_M_node.2.1 45 = .ok (.aload_n 0, 1) := by decide +kernel
theorem d_M_node_46 : decode m_M_node.2.1 46 = .ok (.getfield 243, 3) := by decide +kernel
theorem d_M_node_49 : decode m_M_node.2.1 49 = .ok (.iconst (-1), 1) := by decide +kernel
theorem d_M_node_50 : decode m_M_node.2.1 50 = .ok (.iastore, 1) := by decide +kernel
theorem d_M_node_51 : decode m_M_node.2.1 51 = .ok (.aload_n 0, 1) := by decide +kernel
theorem d_M_node_52 : decode m_M_node.2.1 52 = .ok (.getfield 76, 3) := by decide +kernel
theorem d_M_node_55 : decode m_M_node.2.1 55 = .ok (.aload_n 0, 1) := by decide +kernel
theorem d_M_node_56 : decode m_M_node.2.1 56 = .ok (.getfield 243, 3) := by decide +kernel
theorem d_M_node_59 : decode m_M_node.2.1 59 = .ok (.iconst 0, 1) := by decide +kernel
theorem d_M_node_60 : decode m_M_node.2.1 60 = .ok (.iastore, 1) := by decide +kernel
theorem d_M_node_61 : decode m_M_node.2.1 61 = .ok (.aload_n 0, 1) := by decide +kernel
theorem d_M_node_62 : decode m_M_node.2.1 62 = .ok (.dup, 1) := by decide +kernel
theorem d_M_node_63 : decode m_M_node.2.1 63 = .ok (.getfield 243, 3) := by decide +kernel
theorem d_M_node_66 : decode m_M_node.2.1 66 = .ok (.iconst 1, 1) := by decide +kernel
theorem d_M_node_67 : decode m_M_node.2.1 67 = .ok (.iadd, 1) := by decide +kernel
theorem d_M_node_68 : decode m_M_node.2.1 68 = .ok (.putfield 243, 3) := by decide +kernel
theorem d_M_node_71 : decode m_M_node.2.1 71 = .ok (.aload_n 0, 1) := by decide +kernel
theorem d_M_node_72 : decode m_M_node.2.1 72 = .ok (.getfield 243, 3) := by decide +kernel
theorem d_M_node_75 : decode m_M_node.2.1 75 = .ok (.iconst 1, 1) := by decide +kernel
theorem d_M_node_76 : decode m_M_node.2.1 76 = .ok (.isub, 1) := by decide +kernel
theorem d_M_node_77 : decode m_M_node.2.1 77 = .ok (.ireturn, 1) := by decide +kernel
theorem d_M_inBrackets_0 : decode m_M_inBrackets.2.1 0 = .ok (.aload_n 0, 1) := by decide +kernel
theorem d_M_inBrackets_1 : decode m_M_inBrackets.2.1 1 = .ok (.bipush 40, 2) := by decide +kernel
theorem d_M_inBrackets_3 : decode m_M_inBrackets.2.1 3 = .ok (.invokevirtual 249, 3) := by decide +kernel
theorem d_M_inBrackets_6 : decode m_M_inBrackets.2.1 6 = .ok (.istore_n 1, 1) := by decide +kernel
theorem d_M_inBrackets_7 : decode m_M_inBrackets.2.1 7 = .ok (.aload_n 0, 1) := by decide +kernel
theorem d_M_inBrackets_8 : decode m_M_inBrackets.2.1 8 = .ok (.dup, 1) := by decide +kernel
theorem d_M_inBrackets_9 : decode m_M_inBrackets.2.1 9 = .ok (.getfield 224, 3) := by decide +kernel
theorem d_M_inBrackets_12 : decode m_M_inBrackets.2.1 12 = .ok (.iconst 1, 1) := by decide +kernel
theorem d_M_inBrackets_13 : decode m_M_inBrackets.2.1 13 = .ok (.iadd, 1) := by decide +kernel
theorem d_M_inBrackets_14 : decode m_M_inBrackets.2.1 14 = .ok (.putfield 224, 3) := by decide +kernel
theorem d_M_inBrackets_17 : decode m_M_inBrackets.2.1 17 = .ok (.aload_n 0, 1) := by decide +kernel
theorem d_M_inBrackets_18 : decode m_M_inBrackets.2.1 18 = .ok (.invokevirtual 267, 3) := by decide +kernel
theorem d_M_inBrackets_21 : decode m_M_inBrackets.2.1 21 = .ok (.istore_n 2, 1) := by decide +kernel
theorem d_M_inBrackets_22 : decode m_M_inBrackets.2.1 22 = .ok (.aload_n 0, 1) := by decide +kernel
theorem d_M_inBrackets_23 : decode m_M_inBrackets.2.1 23 = .ok (.dup, 1) := by decide +kernel
theorem d_M_inBrackets_24 : decode m_M_inBrackets.2.1 24 = .ok (.getfield 224, 3) := by decide +kernel
theorem d_M_inBrackets_27 : decode m_M_inBrackets.2.1 27 = .ok (.iconst 1, 1) := by decide +kernel
theorem d_M_inBrackets_28 : decode m_M_inBrackets.2.1 28 = .ok (.isub, 1) := by decide +kernel
theorem d_M_inBrackets_29 : decode m_M_inBrackets.2.1 29 = .ok (.putfield 224, 3) := by decide +kernel
theorem d_M_inBrackets_32 : decode m_M_inBrackets.2.1 32 = .ok (.aload_n 0, 1) := by decide +kernel
theorem d_M_inBrackets_33 : decode m_M_inBrackets.2.1 33 = .ok (.bipush 41, 2) := by decide +kernel
theorem d_M_inBrackets_35 : decode m_M_inBrackets.2.1 35 = .ok (.invokevirtual 249, 3) := by decide +kernel
theorem d_M_inBrackets_38 : decode m_M_inBrackets.2.1 38 = .ok (.istore_n 1, 1) := by decide +kernel
theorem d_M_inBrackets_39 : decode m_M_inBrackets.2.1 39 = .ok (.iload_n 2, 1) := by decide +kernel
theorem d_M_inBrackets_40 : decode m_M_inBrackets.2.1 40 = .ok (.ireturn, 1) := by decide +kernel
theorem d_M_levelOf_0 : decode m_M_levelOf.2.1 0 = .ok (.iload_n 0, 1) := by decide +kernel
theorem d_M_levelOf_1 : decode m_M_levelOf.2.1 1 = .ok (.lookupswitch 180 #[(37, 177), (38, 163), (42, 177), (43, 174), (45, 174), (47, 177), (60, 168), (62, 168), (94, 161), (124, 159), (265, 165), (266, 165), (267, 168), (268, 168), (269, 171), (270, 171), (271, 157), (272, 155)], 155) := by decide +kernel
theorem d_M_levelOf_156 : decode m_M_levelOf.2.1 156 = .ok (.iconst 1, 1) := by decide +kernel
theorem d_M_levelOf_157 : decode m_M_levelOf.2.1 157 = .ok (.ireturn, 1) := by decide +kernel
theorem d_M_levelOf_158 : decode m_M_levelOf.2.1 158 = .ok (.iconst 2, 1) := by decide +kernel
theorem d_M_levelOf_159 : decode m_M_levelOf.2.1 159 = .ok (.ireturn, 1) := by decide +kernel
theorem d_M_levelOf_160 : decode m_M_levelOf.2.1 160 = .ok (.iconst 3, 1) := by decide +kernel
theorem d_M_levelOf_161 : decode m_M_levelOf.2.1 161 = .ok (.ireturn, 1) := by decide +kernel
theorem d_M_levelOf_162 : decode m_M_levelOf.2.1 162 = .ok (.iconst 4, 1) := by decide +kernel
theorem d_M_levelOf_163 : decode m_M_levelOf.2.1 163 = .ok (.ireturn, 1) := by decide +kernel
theorem d_M_levelOf_164 : decode m_M_levelOf.2.1 164 = .ok (.iconst 5, 1) := by decide +kernel
theorem d_M_levelOf_165 : decode m_M_levelOf.2.1 165 = .ok (.ireturn, 1) := by decide +kernel
theorem d_M_levelOf_166 : decode m_M_levelOf.2.1 166 = .ok (.bipush 6, 2) := by decide +kernel
theorem d_M_levelOf_168 : decode m_M_levelOf.2.1 168 = .ok (.ireturn, 1) := by decide +kernel
theorem d_M_levelOf_169 : decode m_M_levelOf.2.1 169 = .ok (.bipush 7, 2) := by decide +kernel
theorem d_M_levelOf_171 : decode m_M_levelOf.2.1 171 = .ok (.ireturn, 1) := by decide +kernel
theorem d_M_levelOf_172 : decode m_M_levelOf.2.1 172 = .ok (.bipush 8, 2) := by decide +kernel
theorem d_M_levelOf_174 : decode m_M_levelOf.2.1 174 = .ok (.ireturn, 1) := by decide +kernel
theorem d_M_levelOf_175 : decode m_M_levelOf.2.1 175 = .ok (.bipush 9, 2) := by decide +kernel
theorem d_M_levelOf_177 : decode m_M_levelOf.2.1 177 = .ok (.ireturn, 1) := by decide +kernel
theorem d_M_levelOf_178 : decode m_M_levelOf.2.1 178 = .ok (.bipush 10, 2) := by decide +kernel
theorem d_M_levelOf_180 : decode m_M_levelOf.2.1 180 = .ok (.ireturn, 1) := by decide +kernel
theorem d_M_levelOf_181 : decode m_M_levelOf.2.1 181 = .ok (.iconst 0, 1) := by decide +kernel
theorem d_M_levelOf_182 : decode m_M_levelOf.2.1 182 = .ok (.ireturn, 1) := by decide +kernel
theorem d_M_refused_0 : decode m_M_refused.2.1 0 = .ok (.aload_n 0, 1) := by decide +kernel
theorem d_M_refused_1 : decode m_M_refused.2.1 1 = .ok (.iload_n 1, 1) := by decide +kernel
theorem d_M_refused_2 : decode m_M_refused.2.1 2 = .ok (.putfield 330, 3) := by decide +kernel
theorem d_M_refused_5 : decode m_M_refused.2.1 5 = .ok (.aload_n 0, 1) := by decide +kernel
theorem d_M_refused_6 : decode m_M_refused.2.1 6 = .ok (.iload_n 2, 1) := by decide +kernel
theorem d_M_refused_7 : decode m_M_refused.2.1 7 = .ok (.putfield 101, 3) := by decide +kernel
theorem d_M_refused_10 : decode m_M_refused.2.1 10 = .ok (.aload_n 0, 1) := by decide +kernel
theorem d_M_refused_11 : decode m_M_refused.2.1 11 = .ok (.invokevirtual 333, 3) := by decide +kernel
theorem d_M_refused_14 : decode m_M_refused.2.1 14 = .ok (.aload_n 0, 1) := by decide +kernel
theorem d_M_refused_15 : decode m_M_refused.2.1 15 = .ok (.iconst 0, 1) := by decide +kernel
theorem d_M_refused_16 : decode m_M_refused.2.1 16 = .ok (.putfield 144, 3) := by decide +kernel
theorem d_M_refused_19 : decode m_M_refused.2.1 19 = .ok (.aload_n 0, 1) := by decide +kernel
theorem d_M_refused_20 : decode m_M_refused.2.1 20 = .ok (.iconst 1, 1) := by decide +kernel
theorem d_M_refused_21 : decode m_M_refused.2.1 21 = .ok (.invokevirtual 147, 3) := by decide +kernel
theorem d_M_refused_24 : decode m_M_refused.2.1 24 = .ok (.ireturn, 1) := by decide +kernel
theorem d_M_workOfAll_10 : decode m_M_workOfAll.2.1 10 = .ok (.lload_n 2, 1) := by decide +kernel
theorem d_M_workOfAll_11 : decode m_M_workOfAll.2.1 11 = .ok (.aload_n 0, 1) := by decide +kernel
theorem d_M_workOfAll_12 : decode m_M_workOfAll.2.1 12 = .ok (.iload 4, 2) := by decide +kernel
theorem d_M_workOfAll_14 : decode m_M_workOfAll.2.1 14 = .ok (.invokevirtual 319, 3) := by decide +kernel
theorem d_M_workOfAll_17 : decode m_M_workOfAll.2.1 17 = .ok (.ladd, 1) := by decide +kernel
theorem d_M_workOfAll_18 : decode m_M_workOfAll.2.1 18 = .ok (.invokestatic 312, 3) := by decide +kernel
theorem d_M_workOfAll_21 : decode m_M_workOfAll.2.1 21 = .ok (.lstore_n 2, 1) := by decide +kernel
theorem d_M_workOfAll_22 : decode m_M_workOfAll.2.1 22 = .ok (.aload_n 0, 1) := by decide +kernel
theorem d_M_workOfAll_23 : decode m_M_workOfAll.2.1 23 = .ok (.getfield 73, 3) := by decide +kernel
theorem d_M_workOfAll_26 : decode m_M_workOfAll.2.1 26 = .ok (.iload 4, 2) := by decide +kernel
theorem d_M_workOfAll_28 : decode m_M_workOfAll.2.1 28 = .ok (.iaload, 1) := by decide +kernel
theorem d_M_workOfAll_29 : decode m_M_workOfAll.2.1 29 = .ok (.istore 4, 2) := by decide +kernel
theorem d_M_workOfAll_31 : decode m_M_workOfAll.2.1 31 = .ok (.goto (-26), 3) := by decide +kernel
theorem d_M_workOfOne_0 : decode m_M_workOfOne.2.1 0 = .ok (.aload_n 0, 1) := by decide +kernel
theorem d_M_workOfOne_1 : decode m_M_workOfOne.2.1 1 = .ok (.getfield 61, 3) := by decide +kernel
theorem d_M_workOfOne_4 : decode m_M_workOfOne.2.1 4 = .ok (.iload_n 1, 1) := by decide +kernel
theorem d_M_workOfOne_5 : decode m_M_workOfOne.2.1 5 = .ok (.iaload, 1) := by decide +kernel
theorem d_M_workOfOne_6 : decode m_M_workOfOne.2.1 6 = .ok (.lookupswitch 184 #[(258, 71), (260, 130), (275, 42), (276, 53)], 42) := by decide +kernel
theorem d_M_workOfOne_48 : decode m_M_workOfOne.2.1 48 = .ok (.aload_n 0, 1) := by decide +kernel
theorem d_M_workOfOne_49 : decode m_M_workOfOne.2.1 49 = .ok (.aload_n 0, 1) := by decide +kernel
theorem d_M_workOfOne_50 : decode m_M_workOfOne.2.1 50 = .ok (.getfield 64, 3) := by decide +kernel
theorem d_M_workOfOne_53 : decode m_M_workOfOne.2.1 53 = .ok (.iload_n 1, 1) := by decide +kernel
theorem d_M_workOfOne_54 : decode m_M_workOfOne.2.1 54 = .ok (.iaload, 1) := by decide +kernel
theorem d_M_workOfOne_55 : decode m_M_workOfOne.2.1 55 = .ok (.invokevirtual 322, 3) := by decide +kernel
theorem d_M_workOfOne_58 : decode m_M_workOfOne.2.1 58 = .ok (.lreturn, 1) := by decide +kernel
theorem d_M_workOfOne_59 : decode m_M_workOfOne.2.1 59 = .ok (.aload_n 0, 1) := by decide +kernel
theorem d_M_workOfOne_60 : decode m_M_workOfOne.2.1 60 = .ok (.aload_n 0, 1) := by decide +kernel
theorem d_M_workOfOne_61 : decode m_M_workOfOne.2.1 61 = .ok (.getfield 67, 3) := by decide +kernel
theorem d_M_workOfOne_64 : decode m_M_workOfOne.2.1 64 = .ok (.iload_n 1, 1) := by decide +kernel
theorem d_M_workOfOne_65 : decode m_M_workOfOne.2.1 65 = .ok (.iaload, 1) := by decide +kernel
theorem d_M_workOfOne_66 : decode m_M_workOfOne.2.1 66 = .ok (.invokevirtual 308, 3) := by decide +kernel
theorem d_M_workOfOne_69 : decode m_M_workOfOne.2.1 69 = .ok (.ldc2_w 325, 3) := by decide +kernel
theorem d_M_workOfOne_72 : decode m_M_workOfOne.2.1 72 = .ok (.ladd, 1) := by decide +kernel
theorem d_M_workOfOne_73 : decode m_M_workOfOne.2.1 73 = .ok (.invokestatic 312, 3) := by decide +kernel
theorem d_M_workOfOne_76 : decode m_M_workOfOne.2.1 76 = .ok (.lreturn, 1) := by decide +kernel
theorem d_M_workOfOne_77 : decode m_M_workOfOne.2.1 77 = .ok (.aload_n 0, 1) := by decide +kernel
theorem d_M_workOfOne_78 : decode m_M_workOfOne.2.1 78 = .ok (.aload_n 0, 1) := by decide +kernel
theorem d_M_workOfOne_79 : decode m_M_workOfOne.2.1 79 = .ok (.getfield 64, 3) := by decide +kernel
theorem d_M_workOfOne_82 : decode m_M_workOfOne.2.1 82 = .ok (.iload_n 1, 1) := by decide +kernel
theorem d_M_workOfOne_83 : decode m_M_workOfOne.2.1 83 = .ok (.iaload, 1) := by decide +kernel
theorem d_M_workOfOne_84 : decode m_M_workOfOne.2.1 84 = .ok (.invokevirtual 308, 3) := by decide +kernel
theorem d_M_workOfOne_87 : decode m_M_workOfOne.2.1 87 = .ok (.aload_n 0, 1) := by decide +kernel
theorem d_M_workOfOne_88 : decode m_M_workOfOne.2.1 88 = .ok (.aload_n 0, 1) := by decide +kernel
theorem d_M_workOfOne_89 : decode m_M_workOfOne.2.1 89 = .ok (.getfield 67, 3) := by decide +kernel
theorem d_M_workOfOne_92 : decode m_M_workOfOne.2.1 92 = .ok (.iload_n 1, 1) := by decide +kernel
theorem d_M_workOfOne_93 : decode m_M_workOfOne.2.1 93 = .ok (.iaload, 1) := by decide +kernel
theorem d_M_workOfOne_94 : decode m_M_workOfOne.2.1 94 = .ok (.invokevirtual 319, 3) := by decide +kernel
theorem d_M_workOfOne_97 : decode m_M_workOfOne.2.1 97 = .ok (.ladd, 1) := by decide +kernel
theorem d_M_workOfOne_98 : decode m_M_workOfOne.2.1 98 = .ok (.aload_n 0, 1) := by decide +kernel
theorem d_M_workOfOne_99 : decode m_M_workOfOne.2.1 99 = .ok (.getfield 70, 3) := by decide +kernel
theorem d_M_workOfOne_102 : decode m_M_workOfOne.2.1 102 = .ok (.iload_n 1, 1) := by decide +kernel
theorem d_M_workOfOne_103 : decode m_M_workOfOne.2.1 103 = .ok (.iaload, 1) := by decide +kernel
theorem d_M_workOfOne_104 : decode m_M_workOfOne.2.1 104 = .ok (.ifCond .ge 7, 3) := by decide +kernel
theorem d_M_workOfOne_107 : decode m_M_workOfOne.2.1 107 = .ok (.lconst 0, 1) := by decide +kernel
theorem d_M_workOfOne_108 : decode m_M_workOfOne.2.1 108 = .ok (.goto 13, 3) := by decide +kernel
theorem d_M_workOfOne_111 : decode m_M_workOfOne.2.1 111 = .ok (.aload_n 0, 1) := by decide +kernel
theorem d_M_workOfOne_112 : decode m_M_workOfOne.2.1 112 = .ok (.aload_n 0, 1) := by decide +kernel
theorem d_M_workOfOne_113 : decode m_M_workOfOne.2.1 113 = .ok (.getfield 70, 3) := by decide +kernel
theorem d_M_workOfOne_116 : decode m_M_workOfOne.2.1 116 = .ok (.iload_n 1, 1) := by decide +kernel
theorem d_M_workOfOne_117 : decode m_M_workOfOne.2.1 117 = .ok (.iaload, 1) := by decide +kernel
theorem d_M_workOfOne_118 : decode m_M_workOfOne.2.1 118 = .ok (.invokevirtual 319, 3) := by decide +kernel
theorem d_M_workOfOne_121 : decode m_M_workOfOne.2.1 121 = .ok (.ladd, 1) := by decide +kernel
theorem d_M_workOfOne_122 : decode m_M_workOfOne.2.1 122 = .ok (.ldc2_w 325, 3) := by decide +kernel
theorem d_M_workOfOne_125 : decode m_M_workOfOne.2.1 125 = .ok (.aload_n 0, 1) := by decide +kernel
theorem d_M_workOfOne_126 : decode m_M_workOfOne.2.1 126 = .ok (.getfield 261, 3) := by decide +kernel
theorem d_M_workOfOne_129 : decode m_M_workOfOne.2.1 129 = .ok (.i2l, 1) := by decide +kernel
theorem d_M_workOfOne_130 : decode m_M_workOfOne.2.1 130 = .ok (.lmul, 1) := by decide +kernel
theorem d_M_workOfOne_131 : decode m_M_workOfOne.2.1 131 = .ok (.ladd, 1) := by decide +kernel
theorem d_M_workOfOne_132 : decode m_M_workOfOne.2.1 132 = .ok (.invokestatic 312, 3) := by decide +kernel
theorem d_M_workOfOne_135 : decode m_M_workOfOne.2.1 135 = .ok (.lreturn, 1) := by decide +kernel
theorem d_M_workOfOne_136 : decode m_M_workOfOne.2.1 136 = .ok (.aload_n 0, 1) := by decide +kernel
theorem d_M_workOfOne_137 : decode m_M_workOfOne.2.1 137 = .ok (.getfield 70, 3) := by decide +kernel
theorem d_M_workOfOne_140 : decode m_M_workOfOne.2.1 140 = .ok (.iload_n 1, 1) := by decide +kernel
theorem d_M_workOfOne_141 : decode m_M_workOfOne.2.1 141 = .ok (.iaload, 1) := by decide +kernel
theorem d_M_workOfOne_142 : decode m_M_workOfOne.2.1 142 = .ok (.i2l, 1) := by decide +kernel
theorem d_M_workOfOne_143 : decode m_M_workOfOne.2.1 143 = .ok (.aload_n 0, 1) := by decide +kernel
theorem d_M_workOfOne_144 : decode m_M_workOfOne.2.1 144 = .ok (.aload_n 0, 1) := by decide +kernel
theorem d_M_workOfOne_145 : decode m_M_workOfOne.2.1 145 = .ok (.getfield 64, 3) := by decide +kernel
theorem d_M_workOfOne_148 : decode m_M_workOfOne.2.1 148 = .ok (.iload_n 1, 1) := by decide +kernel
theorem d_M_workOfOne_149 : decode m_M_workOfOne.2.1 149 = .ok (.iaload, 1) := by decide +kernel
theorem d_M_workOfOne_150 : decode m_M_workOfOne.2.1 150 = .ok (.invokevirtual 308, 3) := by decide +kernel
theorem d_M_workOfOne_153 : decode m_M_workOfOne.2.1 153 = .ok (.aload_n 0, 1) := by decide +kernel
theorem d_M_workOfOne_154 : decode m_M_workOfOne.2.1 154 = .ok (.aload_n 0, 1) := by decide +kernel
theorem d_M_workOfOne_155 : decode m_M_workOfOne.2.1 155 = .ok (.getfield 67, 3) := by decide +kernel
theorem d_M_workOfOne_158 : decode m_M_workOfOne.2.1 158 = .ok (.iload_n 1, 1) := by decide +kernel
theorem d_M_workOfOne_159 : decode m_M_workOfOne.2.1 159 = .ok (.iaload, 1) := by decide +kernel
theorem d_M_workOfOne_160 : decode m_M_workOfOne.2.1 160 = .ok (.invokevirtual 319, 3) := by decide +kernel
theorem d_M_workOfOne_163 : decode m_M_workOfOne.2.1 163 = .ok (.ladd, 1) := by decide +kernel
theorem d_M_workOfOne_164 : decode m_M_workOfOne.2.1 164 = .ok (.ldc2_w 325, 3) := by decide +kernel
theorem d_M_workOfOne_167 : decode m_M_workOfOne.2.1 167 = .ok (.aload_n 0, 1) := by decide +kernel
theorem d_M_workOfOne_168 : decode m_M_workOfOne.2.1 168 = .ok (.getfield 261, 3) := by decide +kernel
theorem d_M_workOfOne_171 : decode m_M_workOfOne.2.1 171 = .ok (.i2l, 1) := by decide +kernel
theorem d_M_workOfOne_172 : decode m_M_workOfOne.2.1 172 = .ok (.lmul, 1) := by decide +kernel
theorem d_M_workOfOne_173 : decode m_M_workOfOne.2.1 173 = .ok (.ladd, 1) := by decide +kernel
theorem d_M_workOfOne_174 : decode m_M_workOfOne.2.1 174 = .ok (.lmul, 1) := by decide +kernel
theorem d_M_workOfOne_175 : decode m_M_workOfOne.2.1 175 = .ok (.aload_n 0, 1) := by decide +kernel
theorem d_M_workOfOne_176 : decode m_M_workOfOne.2.1 176 = .ok (.aload_n 0, 1) := by decide +kernel
theorem d_M_workOfOne_177 : decode m_M_workOfOne.2.1 177 = .ok (.getfield 64, 3) := by decide +kernel
theorem d_M_workOfOne_180 : decode m_M_workOfOne.2.1 180 = .ok (.iload_n 1, 1) := by decide +kernel
theorem d_M_workOfOne_181 : decode m_M_workOfOne.2.1 181 = .ok (.iaload, 1) := by decide +kernel
theorem d_M_workOfOne_182 : decode m_M_workOfOne.2.1 182 = .ok (.invokevirtual 308, 3) := by decide +kernel
theorem d_M_workOfOne_185 : decode m_M_workOfOne.2.1 185 = .ok (.ladd, 1) := by decide +kernel
theorem d_M_workOfOne_186 : decode m_M_workOfOne.2.1 186 = .ok (.invokestatic 312, 3) := by decide +kernel
theorem d_M_workOfOne_189 : decode m_M_workOfOne.2.1 189 = .ok (.lreturn, 1) := by decide +kernel
theorem d_M_workOfOne_190 : decode m_M_workOfOne.2.1 190 = .ok (.aload_n 0, 1) := by decide +kernel
theorem d_M_workOfOne_191 : decode m_M_workOfOne.2.1 191 = .ok (.aload_n 0, 1) := by decide +kernel
theorem d_M_workOfOne_192 : decode m_M_workOfOne.2.1 192 = .ok (.getfield 64, 3) := by decide +kernel
theorem d_M_workOfOne_195 : decode m_M_workOfOne.2.1 195 = .ok (.iload_n 1, 1) := by decide +kernel
theorem d_M_workOfOne_196 : decode m_M_workOfOne.2.1 196 = .ok (.iaload, 1) := by decide +kernel
theorem d_M_workOfOne_197 : decode m_M_workOfOne.2.1 197 = .ok (.invokevirtual 308, 3) := by decide +kernel
theorem d_M_workOfOne_200 : decode m_M_workOfOne.2.1 200 = .ok (.ldc2_w 325, 3) := by decide +kernel
theorem d_M_workOfOne_203 : decode m_M_workOfOne.2.1 203 = .ok (.ladd, 1) := by decide +kernel
theorem d_M_workOfOne_204 : decode m_M_workOfOne.2.1 204 = .ok (.invokestatic 312, 3) := by decide +kernel
theorem d_M_workOfOne_207 : decode m_M_workOfOne.2.1 207 = .ok (.lreturn, 1) := by decide +kernel
theorem d_M_workOf_0 : decode m_M_workOf.2.1 0 = .ok (.lconst 0, 1) := by decide +kernel
theorem d_M_workOf_1 : decode m_M_workOf.2.1 1 = .ok (.lstore_n 2, 1) := by decide +kernel
theorem d_M_workOf_2 : decode m_M_workOf.2.1 2 = .ok (.iload_n 1, 1) := by decide +kernel
theorem d_M_workOf_3 : decode m_M_workOf.2.1 3 = .ok (.istore 4, 2) := by decide +kernel
theorem d_M_workOf_5 : decode m_M_workOf.2.1 5 = .ok (.aload_n 0, 1) := by decide +kernel
theorem d_M_workOf_6 : decode m_M_workOf.2.1 6 = .ok (.iload 4, 2) := by decide +kernel
theorem d_M_workOf_8 : decode m_M_workOf.2.1 8 = .ok (.invokevirtual 305, 3) := by decide +kernel
theorem d_M_workOf_11 : decode m_M_workOf.2.1 11 = .ok (.ifCond .eq 142, 3) := by decide +kernel
theorem d_M_workOf_14 : decode m_M_workOf.2.1 14 = .ok (.aload_n 0, 1) := by decide +kernel
theorem d_M_workOf_15 : decode m_M_workOf.2.1 15 = .ok (.getfield 61, 3) := by decide +kernel
theorem d_M_workOf_18 : decode m_M_workOf.2.1 18 = .ok (.iload 4, 2) := by decide +kernel
theorem d_M_workOf_20 : decode m_M_workOf.2.1 20 = .ok (.iaload, 1) := by decide +kernel
theorem d_M_workOf_21 : decode m_M_workOf.2.1 21 = .ok (.istore 5, 2) := by decide +kernel
theorem d_M_workOf_23 : decode m_M_workOf.2.1 23 = .ok (.aload_n 0, 1) := by decide +kernel
theorem d_M_workOf_24 : decode m_M_workOf.2.1 24 = .ok (.getfield 76, 3) := by decide +kernel
theorem d_M_workOf_27 : decode m_M_workOf.2.1 27 = .ok (.iload 4, 2) := by decide +kernel
theorem d_M_workOf_29 : decode m_M_workOf.2.1 29 = .ok (.iaload, 1) := by decide +kernel
theorem d_M_workOf_30 : decode m_M_workOf.2.1 30 = .ok (.aload_n 0, 1) := by decide +kernel
theorem d_M_workOf_31 : decode m_M_workOf.2.1 31 = .ok (.getfield 76, 3) := by decide +kernel
theorem d_M_workOf_34 : decode m_M_workOf.2.1 34 = .ok (.aload_n 0, 1) := by decide +kernel
theorem d_M_workOf_35 : decode m_M_workOf.2.1 35 = .ok (.getfield 64, 3) := by decide +kernel
theorem d_M_workOf_38 : decode m_M_workOf.2.1 38 = .ok (.iload 4, 2) := by decide +kernel
theorem d_M_workOf_40 : decode m_M_workOf.2.1 40 = .ok (.iaload, 1) := by decide +kernel
theorem d_M_workOf_41 : decode m_M_workOf.2.1 41 = .ok (.iaload, 1) := by decide +kernel
theorem d_M_workOf_42 : decode m_M_workOf.2.1 42 = .ok (.aload_n 0, 1) := by decide +kernel
theorem d_M_workOf_43 : decode m_M_workOf.2.1 43 = .ok (.getfield 76, 3) := by decide +kernel
theorem d_M_workOf_46 : decode m_M_workOf.2.1 46 = .ok (.aload_n 0, 1) := by decide +kernel
theorem d_M_workOf_47 : decode m_M_workOf.2.1 47 = .ok (.getfield 67, 3) := by decide +kernel
theorem d_M_workOf_50 : decode m_M_workOf.2.1 50 = .ok (.iload 4, 2) := by decide +kernel
theorem d_M_workOf_52 : decode m_M_workOf.2.1 52 = .ok (.iaload, 1) := by decide +kernel
theorem d_M_workOf_53 : decode m_M_workOf.2.1 53 = .ok (.iaload, 1) := by decide +kernel
theorem d_M_workOf_54 : decode m_M_workOf.2.1 54 = .ok (.invokestatic 286, 3) := by decide +kernel
theorem d_M_workOf_57 : decode m_M_workOf.2.1 57 = .ok (.invokestatic 286, 3) := by decide +kernel
theorem d_M_workOf_60 : decode m_M_workOf.2.1 60 = .ok (.istore 6, 2) := by decide +kernel
theorem d_M_workOf_62 : decode m_M_workOf.2.1 62 = .ok (.iload 5, 2) := by decide +kernel
theorem d_M_workOf_64 : decode m_M_workOf.2.1 64 = .ok (.bipush 42, 2) := by decide +kernel
theorem d_M_workOf_66 : decode m_M_workOf.2.1 66 = .ok (.if_icmp .eq 17, 3) := by decide +kernel
theorem d_M_workOf_69 : decode m_M_workOf.2.1 69 = .ok (.iload 5, 2) := by decide +kernel
theorem d_M_workOf_71 : decode m_M_workOf.2.1 71 = .ok (.bipush 47, 2) := by decide +kernel
theorem d_M_workOf_73 : decode m_M_workOf.2.1 73 = .ok (.if_icmp .eq 10, 3) := by decide +kernel
theorem d_M_workOf_76 : decode m_M_workOf.2.1 76 = .ok (.iload 5, 2) := by decide +kernel
theorem d_M_workOf_78 : decode m_M_workOf.2.1 78 = .ok (.bipush 37, 2) := by decide +kernel
theorem d_M_workOf_80 : decode m_M_workOf.2.1 80 = .ok (.if_icmp .ne 12, 3) := by decide +kernel
theorem d_M_workOf_83 : decode m_M_workOf.2.1 83 = .ok (.iload 6, 2) := by decide +kernel
theorem d_M_workOf_85 : decode m_M_workOf.2.1 85 = .ok (.iload 6, 2) := by decide +kernel
theorem d_M_workOf_87 : decode m_M_workOf.2.1 87 = .ok (.imul, 1) := by decide +kernel
theorem d_M_workOf_88 : decode m_M_workOf.2.1 88 = .ok (.i2l, 1) := by decide +kernel
theorem d_M_workOf_89 : decode m_M_workOf.2.1 89 = .ok (.goto 30, 3) := by decide +kernel
theorem d_M_workOf_92 : decode m_M_workOf.2.1 92 = .ok (.iload 5, 2) := by decide +kernel
theorem d_M_workOf_94 : decode m_M_workOf.2.1 94 = .ok (.sipush 269, 3) := by decide +kernel
theorem d_M_workOf_97 : decode m_M_workOf.2.1 97 = .ok (.if_icmp .eq 11, 3) := by decide +kernel
theorem d_M_workOf_100 : decode m_M_workOf.2.1 100 = .ok (.iload 5, 2) := by decide +kernel
theorem d_M_workOf_102 : decode m_M_workOf.2.1 102 = .ok (.sipush 270, 3) := by decide +kernel
theorem d_M_workOf_105 : decode m_M_workOf.2.1 105 = .ok (.if_icmp .ne 11, 3) := by decide +kernel
theorem d_M_workOf_108 : decode m_M_workOf.2.1 108 = .ok (.iconst 4, 1) := by decide +kernel
theorem d_M_workOf_109 : decode m_M_workOf.2.1 109 = .ok (.iload 6, 2) := by decide +kernel
theorem d_M_workOf_111 : decode m_M_workOf.2.1 111 = .ok (.imul, 1) := by decide +kernel
theorem d_M_workOf_112 : decode m_M_workOf.2.1 112 = .ok (.i2l, 1) := by decide +kernel
theorem d_M_workOf_113 : decode m_M_workOf.2.1 113 = .ok (.goto 6, 3) := by decide +kernel
theorem d_M_workOf_116 : decode m_M_workOf.2.1 116 = .ok (.iload 6, 2) := by decide +kernel
theorem d_M_workOf_118 : decode m_M_workOf.2.1 118 = .ok (.i2l, 1) := by decide +kernel
theorem d_M_workOf_119 : decode m_M_workOf.2.1 119 = .ok (.lstore 7, 2) := by decide +kernel
theorem d_M_workOf_121 : decode m_M_workOf.2.1 121 = .ok (.lload_n 2, 1) := by decide +kernel
theorem d_M_workOf_122 : decode m_M_workOf.2.1 122 = .ok (.lload 7, 2) := by decide +kernel
theorem d_M_workOf_124 : decode m_M_workOf.2.1 124 = .ok (.ladd, 1) := by decide +kernel
theorem d_M_workOf_125 : decode m_M_workOf.2.1 125 = .ok (.aload_n 0, 1) := by decide +kernel
theorem d_M_workOf_126 : decode m_M_workOf.2.1 126 = .ok (.aload_n 0, 1) := by decide +kernel
theorem d_M_workOf_127 : decode m_M_workOf.2.1 127 = .ok (.getfield 67, 3) := by decide +kernel
theorem d_M_workOf_130 : decode m_M_workOf.2.1 130 = .ok (.iload 4, 2) := by decide +kernel
theorem d_M_workOf_132 : decode m_M_workOf.2.1 132 = .ok (.iaload, 1) := by decide +kernel
theorem d_M_workOf_133 : decode m_M_workOf.2.1 133 = .ok (.invokevirtual 308, 3) := by decide +kernel
theorem d_M_workOf_136 : decode m_M_workOf.2.1 136 = .ok (.ladd, 1) := by decide +kernel
theorem d_M_workOf_137 : decode m_M_workOf.2.1 137 = .ok (.invokestatic 312, 3) := by decide +kernel
theorem d_M_workOf_140 : decode m_M_workOf.2.1 140 = .ok (.lstore_n 2, 1) := by decide +kernel
theorem d_M_workOf_141 : decode m_M_workOf.2.1 141 = .ok (.aload_n 0, 1) := by decide +kernel
theorem d_M_workOf_142 : decode m_M_workOf.2.1 142 = .ok (.getfield 64, 3) := by decide +kernel
theorem d_M_workOf_145 : decode m_M_workOf.2.1 145 = .ok (.iload 4, 2) := by decide +kernel
theorem d_M_workOf_147 : decode m_M_workOf.2.1 147 = .ok (.iaload, 1) := by decide +kernel
theorem d_M_workOf_148 : decode m_M_workOf.2.1 148 = .ok (.istore 4, 2) := by decide +kernel
theorem d_M_workOf_150 : decode m_M_workOf.2.1 150 = .ok (.goto (-145), 3) := by decide +kernel
theorem d_M_workOf_153 : decode m_M_workOf.2.1 153 = .ok (.lload_n 2, 1) := by decide +kernel
theorem d_M_workOf_154 : decode m_M_workOf.2.1 154 = .ok (.aload_n 0, 1) := by decide +kernel
theorem d_M_workOf_155 : decode m_M_workOf.2.1 155 = .ok (.iload 4, 2) := by decide +kernel
theorem d_M_workOf_157 : decode m_M_workOf.2.1 157 = .ok (.invokevirtual 316, 3) := by decide +kernel
theorem d_M_workOf_160 : decode m_M_workOf.2.1 160 = .ok (.ladd, 1) := by decide +kernel
theorem d_M_workOf_161 : decode m_M_workOf.2.1 161 = .ok (.invokestatic 312, 3) := by decide +kernel
theorem d_M_workOf_164 : decode m_M_workOf.2.1 164 = .ok (.lreturn, 1) := by decide +kernel
theorem d_M_isTwo_0 : decode m_M_isTwo.2.1 0 = .ok (.aload_n 0, 1) := by decide +kernel
theorem d_M_isTwo_1 : decode m_M_isTwo.2.1 1 = .ok (.getfield 61, 3) := by decide +kernel
theorem d_M_isTwo_4 : decode m_M_isTwo.2.1 4 = .ok (.iload_n 1, 1) := by decide +kernel
theorem d_M_isTwo_5 : decode m_M_isTwo.2.1 5 = .ok (.iaload, 1) := by decide +kernel
theorem d_M_isTwo_6 : decode m_M_isTwo.2.1 6 = .ok (.invokestatic 292, 3) := by decide +kernel
theorem d_M_isTwo_9 : decode m_M_isTwo.2.1 9 = .ok (.ifCond .le 7, 3) := by decide +kernel
theorem d_M_isTwo_12 : decode m_M_isTwo.2.1 12 = .ok (.iconst 1, 1) := by decide +kernel
theorem d_M_isTwo_13 : decode m_M_isTwo.2.1 13 = .ok (.goto 4, 3) := by decide +kernel
theorem d_M_isTwo_16 : decode m_M_isTwo.2.1 16 = .ok (.iconst 0, 1) := by decide +kernel
theorem d_M_isTwo_17 : decode m_M_isTwo.2.1 17 = .ok (.ireturn, 1) := by decide +kernel
theorem d_M_most_0 : decode m_M_most.2.1 0 = .ok (.lload_n 0, 1) := by decide +kernel
theorem d_M_most_1 : decode m_M_most.2.1 1 = .ok (.ldc2_w 300, 3) := by decide +kernel
theorem d_M_most_4 : decode m_M_most.2.1 4 = .ok (.invokestatic 302, 3) := by decide +kernel
theorem d_M_most_7 : decode m_M_most.2.1 7 = .ok (.lreturn, 1) := by decide +kernel
theorem d_M_workOfOther_0 : decode m_M_workOfOther.2.1 0 = .ok (.aload_n 0, 1) := by decide +kernel
theorem d_M_workOfOther_1 : decode m_M_workOfOther.2.1 1 = .ok (.getfield 61, 3) := by decide +kernel
theorem d_M_workOfOther_4 : decode m_M_workOfOther.2.1 4 = .ok (.iload_n 1, 1) := by decide +kernel
theorem d_M_workOfOther_5 : decode m_M_workOfOther.2.1 5 = .ok (.iaload, 1) := by decide +kernel
theorem d_M_workOfOther_6 : decode m_M_workOfOther.2.1 6 = .ok (.istore_n 2, 1) := by decide +kernel
theorem d_M_workOfOther_7 : decode m_M_workOfOther.2.1 7 = .ok (.iload_n 2, 1) := by decide +kernel
theorem d_M_workOfOther_8 : decode m_M_workOfOther.2.1 8 = .ok (.sipush 264, 3) := by decide +kernel
theorem d_M_workOfOther_11 : decode m_M_workOfOther.2.1 11 = .ok (.if_icmp .eq 10, 3) := by decide +kernel
theorem d_M_workOfOther_14 : decode m_M_workOfOther.2.1 14 = .ok (.iload_n 2, 1) := by decide +kernel
theorem d_M_workOfOther_15 : decode m_M_workOfOther.2.1 15 = .ok (.sipush 263, 3) := by decide +kernel
theorem d_M_workOfOther_18 : decode m_M_workOfOther.2.1 18 = .ok (.if_icmp .ne 5, 3) := by decide +kernel
theorem d_M_workOfOther_21 : decode m_M_workOfOther.2.1 21 = .ok (.lconst 0, 1) := by decide +kernel
theorem d_M_workOfOther_22 : decode m_M_workOfOther.2.1 22 = .ok (.lreturn, 1) := by decide +kernel
theorem d_M_workOfOther_23 : decode m_M_workOfOther.2.1 23 = .ok (.aload_n 0, 1) := by decide +kernel
theorem d_M_workOfOther_24 : decode m_M_workOfOther.2.1 24 = .ok (.getfield 76, 3) := by decide +kernel
theorem d_M_workOfOther_27 : decode m_M_workOfOther.2.1 27 = .ok (.iload_n 1, 1) := by decide +kernel
theorem d_M_workOfOther_28 : decode m_M_workOfOther.2.1 28 = .ok (.iaload, 1) := by decide +kernel
theorem d_M_workOfOther_29 : decode m_M_workOfOther.2.1 29 = .ok (.aload_n 0, 1) := by decide +kernel
theorem d_M_workOfOther_30 : decode m_M_workOfOther.2.1 30 = .ok (.getfield 76, 3) := by decide +kernel
theorem d_M_workOfOther_33 : decode m_M_workOfOther.2.1 33 = .ok (.aload_n 0, 1) := by decide +kernel
theorem d_M_workOfOther_34 : decode m_M_workOfOther.2.1 34 = .ok (.getfield 64, 3) := by decide +kernel
theorem d_M_workOfOther_37 : decode m_M_workOfOther.2.1 37 = .ok (.iload_n 1, 1) := by decide +kernel
theorem d_M_workOfOther_38 : decode m_M_workOfOther.2.1 38 = .ok (.iaload, 1) := by decide +kernel
theorem d_M_workOfOther_39 : decode m_M_workOfOther.2.1 39 = .ok (.iaload, 1) := by decide +kernel
theorem d_M_workOfOther_40 : decode m_M_workOfOther.2.1 40 = .ok (.invokestatic 286, 3) := by decide +kernel
theorem d_M_workOfOther_43 : decode m_M_workOfOther.2.1 43 = .ok (.istore_n 3, 1) := by decide +kernel
theorem d_M_workOfOther_44 : decode m_M_workOfOther.2.1 44 = .ok (.iload_n 2, 1) := by decide +kernel
theorem d_M_workOfOther_45 : decode m_M_workOfOther.2.1 45 = .ok (.sipush 277, 3) := by decide +kernel
theorem d_M_workOfOther_48 : decode m_M_workOfOther.2.1 48 = .ok (.if_icmp .eq 20, 3) := by decide +kernel
theorem d_M_workOfOther_51 : decode m_M_workOfOther.2.1 51 = .ok (.aload_n 0, 1) := by decide +kernel
theorem d_M_workOfOther_52 : decode m_M_workOfOther.2.1 52 = .ok (.aload_n 0, 1) := by decide +kernel
theorem d_M_workOfOther_53 : decode m_M_workOfOther.2.1 53 = .ok (.getfield 64, 3) := by decide +kernel
theorem d_M_workOfOther_56 : decode m_M_workOfOther.2.1 56 = .ok (.iload_n 1, 1) := by decide +kernel
theorem d_M_workOfOther_57 : decode m_M_workOfOther.2.1 57 = .ok (.iaload, 1) := by decide +kernel
theorem d_M_workOfOther_58 : decode m_M_workOfOther.2.1 58 = .ok (.invokevirtual 308, 3) := by decide +kernel
theorem d_M_workOfOther_61 : decode m_M_workOfOther.2.1 61 = .ok (.iload_n 3, 1) := by decide +kernel
theorem d_M_workOfOther_62 : decode m_M_workOfOther.2.1 62 = .ok (.i2l, 1) := by decide +kernel
theorem d_M_workOfOther_63 : decode m_M_workOfOther.2.1 63 = .ok (.ladd, 1) := by decide +kernel
theorem d_M_workOfOther_64 : decode m_M_workOfOther.2.1 64 = .ok (.invokestatic 312, 3) := by decide +kernel
theorem d_M_workOfOther_67 : decode m_M_workOfOther.2.1 67 = .ok (.lreturn, 1) := by decide +kernel
theorem d_M_workOfOther_68 : decode m_M_workOfOther.2.1 68 = .ok (.aload_n 0, 1) := by decide +kernel
theorem d_M_workOfOther_69 : decode m_M_workOfOther.2.1 69 = .ok (.aload_n 0, 1) := by decide +kernel
theorem d_M_workOfOther_70 : decode m_M_workOfOther.2.1 70 = .ok (.getfield 64, 3) := by decide +kernel
theorem d_M_workOfOther_73 : decode m_M_workOfOther.2.1 73 = .ok (.iload_n 1, 1) := by decide +kernel
theorem d_M_workOfOther_74 : decode m_M_workOfOther.2.1 74 = .ok (.iaload, 1) := by decide +kernel
theorem d_M_workOfOther_75 : decode m_M_workOfOther.2.1 75 = .ok (.invokevirtual 308, 3) := by decide +kernel
theorem d_M_workOfOther_78 : decode m_M_workOfOther.2.1 78 = .ok (.aload_n 0, 1) := by decide +kernel
theorem d_M_workOfOther_79 : decode m_M_workOfOther.2.1 79 = .ok (.aload_n 0, 1) := by decide +kernel
theorem d_M_workOfOther_80 : decode m_M_workOfOther.2.1 80 = .ok (.getfield 67, 3) := by decide +kernel
theorem d_M_workOfOther_83 : decode m_M_workOfOther.2.1 83 = .ok (.iload_n 1, 1) := by decide +kernel
theorem d_M_workOfOther_84 : decode m_M_workOfOther.2.1 84 = .ok (.iaload, 1) := by decide +kernel
theorem d_M_workOfOther_85 : decode m_M_workOfOther.2.1 85 = .ok (.invokevirtual 308, 3) := by decide +kernel
theorem d_M_workOfOther_88 : decode m_M_workOfOther.2.1 88 = .ok (.ladd, 1) := by decide +kernel
theorem d_M_workOfOther_89 : decode m_M_workOfOther.2.1 89 = .ok (.aload_n 0, 1) := by decide +kernel
theorem d_M_workOfOther_90 : decode m_M_workOfOther.2.1 90 = .ok (.aload_n 0, 1) := by decide +kernel
theorem d_M_workOfOther_91 : decode m_M_workOfOther.2.1 91 = .ok (.getfield 70, 3) := by decide +kernel
theorem d_M_workOfOther_94 : decode m_M_workOfOther.2.1 94 = .ok (.iload_n 1, 1) := by decide +kernel
theorem d_M_workOfOther_95 : decode m_M_workOfOther.2.1 95 = .ok (.iaload, 1) := by decide +kernel
theorem d_M_workOfOther_96 : decode m_M_workOfOther.2.1 96 = .ok (.invokevirtual 308, 3) := by decide +kernel
theorem d_M_workOfOther_99 : decode m_M_workOfOther.2.1 99 = .ok (.ladd, 1) := by decide +kernel
theorem d_M_workOfOther_100 : decode m_M_workOfOther.2.1 100 = .ok (.iload_n 3, 1) := by decide +kernel
theorem d_M_workOfOther_101 : decode m_M_workOfOther.2.1 101 = .ok (.aload_n 0, 1) := by decide +kernel
theorem d_M_workOfOther_102 : decode m_M_workOfOther.2.1 102 = .ok (.getfield 76, 3) := by decide +kernel
theorem d_M_workOfOther_105 : decode m_M_workOfOther.2.1 105 = .ok (.aload_n 0, 1) := by decide +kernel
theorem d_M_workOfOther_106 : decode m_M_workOfOther.2.1 106 = .ok (.getfield 67, 3) := by decide +kernel
theorem d_M_workOfOther_109 : decode m_M_workOfOther.2.1 109 = .ok (.iload_n 1, 1) := by decide +kernel
theorem d_M_workOfOther_110 : decode m_M_workOfOther.2.1 110 = .ok (.iaload, 1) := by decide +kernel
theorem d_M_workOfOther_111 : decode m_M_workOfOther.2.1 111 = .ok (.iaload, 1) := by decide +kernel
theorem d_M_workOfOther_112 : decode m_M_workOfOther.2.1 112 = .ok (.aload_n 0, 1) := by decide +kernel
theorem d_M_workOfOther_113 : decode m_M_workOfOther.2.1 113 = .ok (.getfield 76, 3) := by decide +kernel
theorem d_M_workOfOther_116 : decode m_M_workOfOther.2.1 116 = .ok (.aload_n 0, 1) := by decide +kernel
theorem d_M_workOfOther_117 : decode m_M_workOfOther.2.1 117 = .ok (.getfield 70, 3) := by decide +kernel
theorem d_M_workOfOther_120 : decode m_M_workOfOther.2.1 120 = .ok (.iload_n 1, 1) := by decide +kernel
theorem d_M_workOfOther_121 : decode m_M_workOfOther.2.1 121 = .ok (.iaload, 1) := by decide +kernel
theorem d_M_workOfOther_122 : decode m_M_workOfOther.2.1 122 = .ok (.iaload, 1) := by decide +kernel
theorem d_M_workOfOther_123 : decode m_M_workOfOther.2.1 123 = .ok (.invokestatic 286, 3) := by decide +kernel
theorem d_M_workOfOther_126 : decode m_M_workOfOther.2.1 126 = .ok (.invokestatic 286, 3) := by decide +kernel
theorem d_M_workOfOther_129 : decode m_M_workOfOther.2.1 129 = .ok (.i2l, 1) := by decide +kernel
theorem d_M_workOfOther_130 : decode m_M_workOfOther.2.1 130 = .ok (.ladd, 1) := by decide +kernel
theorem d_M_workOfOther_131 : decode m_M_workOfOther.2.1 131 = .ok (.invokestatic 312, 3) := by decide +kernel
theorem d_M_workOfOther_134 : decode m_M_workOfOther.2.1 134 = .ok (.lreturn, 1) := by decide +kernel
theorem d_M_fails_13 : decode m_M_fails.2.1 13 = .ok (.iconst 0, 1) := by decide +kernel
theorem d_M_fails_14 : decode m_M_fails.2.1 14 = .ok (.istore_n 1, 1) := by decide +kernel
theorem d_M_fails_15 : decode m_M_fails.2.1 15 = .ok (.iload_n 1, 1) := by decide +kernel
theorem d_M_fails_16 : decode m_M_fails.2.1 16 = .ok (.iconst 1, 1) := by decide +kernel
theorem d_M_fails_17 : decode m_M_fails.2.1 17 = .ok (.aload_n 0, 1) := by decide +kernel
theorem d_M_fails_18 : decode m_M_fails.2.1 18 = .ok (.getfield 366, 3) := by decide +kernel
theorem d_M_fails_21 : decode m_M_fails.2.1 21 = .ok (.ishl, 1) := by decide +kernel
theorem d_M_fails_22 : decode m_M_fails.2.1 22 = .ok (.if_icmp .ge 25, 3) := by decide +kernel
theorem d_M_fails_25 : decode m_M_fails.2.1 25 = .ok (.aload_n 0, 1) := by decide +kernel
theorem d_M_fails_26 : decode m_M_fails.2.1 26 = .ok (.getfield 104, 3) := by decide +kernel
theorem d_M_fails_29 : decode m_M_fails.2.1 29 = .ok (.iload_n 1, 1) := by decide +kernel
theorem d_M_fails_30 : decode m_M_fails.2.1 30 = .ok (.baload, 1) := by decide +kernel
theorem d_M_fails_31 : decode m_M_fails.2.1 31 = .ok (.iconst 1, 1) := by decide +kernel
theorem d_M_fails_32 : decode m_M_fails.2.1 32 = .ok (.if_icmp .ne 9, 3) := by decide +kernel
theorem d_M_fails_35 : decode m_M_fails.2.1 35 = .ok (.aload_n 0, 1) := by decide +kernel
theorem d_M_fails_36 : decode m_M_fails.2.1 36 = .ok (.iload_n 1, 1) := by decide +kernel
theorem d_M_fails_37 : decode m_M_fails.2.1 37 = .ok (.invokevirtual 406, 3) := by decide +kernel
theorem d_M_fails_40 : decode m_M_fails.2.1 40 = .ok (.ireturn, 1) := by decide +kernel
theorem d_M_fails_41 : decode m_M_fails.2.1 41 = .ok (.iinc 1 1, 3) := by decide +kernel
theorem d_M_fails_44 : decode m_M_fails.2.1 44 = .ok (.goto (-29), 3) := by decide +kernel
theorem d_M_fails_47 : decode m_M_fails.2.1 47 = .ok (.aload_n 0, 1) := by decide +kernel
theorem d_M_fails_48 : decode m_M_fails.2.1 48 = .ok (.iconst (-1), 1) := by decide +kernel
theorem d_M_fails_49 : decode m_M_fails.2.1 49 = .ok (.invokevirtual 406, 3) := by decide +kernel
theorem d_M_fails_52 : decode m_M_fails.2.1 52 = .ok (.ireturn, 1) := by decide +kernel
theorem d_M_questions_9 : decode m_M_questions.2.1 9 = .ok (.aload_n 0, 1) := by decide +kernel
theorem d_M_questions_10 : decode m_M_questions.2.1 10 = .ok (.getfield 369, 3) := by decide +kernel
theorem d_M_questions_13 : decode m_M_questions.2.1 13 = .ok (.ifCond .eq 5, 3) := by decide +kernel
theorem d_M_questions_16 : decode m_M_questions.2.1 16 = .ok (.iconst 1, 1) := by decide +kernel
theorem d_M_questions_17 : decode m_M_questions.2.1 17 = .ok (.ireturn, 1) := by decide +kernel
theorem d_M_questions_18 : decode m_M_questions.2.1 18 = .ok (.aload_n 0, 1) := by decide +kernel
theorem d_M_questions_19 : decode m_M_questions.2.1 19 = .ok (.iconst 1, 1) := by decide +kernel
theorem d_M_questions_20 : decode m_M_questions.2.1 20 = .ok (.putfield 369, 3) := by decide +kernel
theorem d_M_questions_23 : decode m_M_questions.2.1 23 = .ok (.iconst 0, 1) := by decide +kernel
theorem d_M_questions_24 : decode m_M_questions.2.1 24 = .ok (.istore_n 1, 1) := by decide +kernel
theorem d_M_questions_25 : decode m_M_questions.2.1 25 = .ok (.iload_n 1, 1) := by decide +kernel
theorem d_M_questions_26 : decode m_M_questions.2.1 26 = .ok (.iconst 1, 1) := by decide +kernel
theorem d_M_questions_27 : decode m_M_questions.2.1 27 = .ok (.aload_n 0, 1) := by decide +kernel
theorem d_M_questions_28 : decode m_M_questions.2.1 28 = .ok (.getfield 366, 3) := by decide +kernel
theorem d_M_questions_31 : decode m_M_questions.2.1 31 = .ok (.ishl, 1) := by decide +kernel
theorem d_M_questions_32 : decode m_M_questions.2.1 32 = .ok (.if_icmp .ge 89, 3) := by decide +kernel
theorem d_M_questions_35 : decode m_M_questions.2.1 35 = .ok (.aload_n 0, 1) := by decide +kernel
theorem d_M_questions_36 : decode m_M_questions.2.1 36 = .ok (.iload_n 1, 1) := by decide +kernel
theorem d_M_questions_37 : decode m_M_questions.2.1 37 = .ok (.aload_n 0, 1) := by decide +kernel
theorem d_M_questions_38 : decode m_M_questions.2.1 38 = .ok (.getfield 114, 3) := by decide +kernel
theorem d_M_questions_41 : decode m_M_questions.2.1 41 = .ok (.invokevirtual 395, 3) := by decide +kernel
theorem d_M_questions_44 : decode m_M_questions.2.1 44 = .ok (.aload_n 0, 1) := by decide +kernel
theorem d_M_questions_45 : decode m_M_questions.2.1 45 = .ok (.getfield 104, 3) := by decide +kernel
theorem d_M_questions_48 : decode m_M_questions.2.1 48 = .ok (.iload_n 1, 1) := by decide +kernel
theorem d_M_questions_49 : decode m_M_questions.2.1 49 = .ok (.aload_n 0, 1) := by decide +kernel
theorem d_M_questions_50 : decode m_M_questions.2.1 50 = .ok (.invokevirtual 399, 3) := by decide +kernel
theorem d_M_questions_53 : decode m_M_questions.2.1 53 = .ok (.i2b, 1) := by decide +kernel
theorem d_M_questions_54 : decode m_M_questions.2.1 54 = .ok (.bastore, 1) := by decide +kernel
theorem d_M_questions_55 : decode m_M_questions.2.1 55 = .ok (.aload_n 0, 1) := by decide +kernel
theorem d_M_questions_56 : decode m_M_questions.2.1 56 = .ok (.getfield 107, 3) := by decide +kernel
theorem d_M_questions_59 : decode m_M_questions.2.1 59 = .ok (.iload_n 1, 1) := by decide +kernel
theorem d_M_questions_60 : decode m_M_questions.2.1 60 = .ok (.aload_n 0, 1) := by decide +kernel
theorem d_M_questions_61 : decode m_M_questions.2.1 61 = .ok (.getfield 392, 3) := by decide +kernel
theorem d_M_questions_64 : decode m_M_questions.2.1 64 = .ok (.bipush 127, 2) := by decide +kernel
theorem d_M_questions_66 : decode m_M_questions.2.1 66 = .ok (.invokestatic 204, 3) := by decide +kernel
theorem d_M_questions_69 : decode m_M_questions.2.1 69 = .ok (.i2b, 1) := by decide +kernel
theorem d_M_questions_70 : decode m_M_questions.2.1 70 = .ok (.bastore, 1) := by decide +kernel
theorem d_M_questions_71 : decode m_M_questions.2.1 71 = .ok (.aload_n 0, 1) := by decide +kernel
theorem d_M_questions_72 : decode m_M_questions.2.1 72 = .ok (.getfield 138, 3) := by decide +kernel
theorem d_M_questions_75 : decode m_M_questions.2.1 75 = .ok (.iload_n 1, 1) := by decide +kernel
theorem d_M_questions_76 : decode m_M_questions.2.1 76 = .ok (.aload_n 0, 1) := by decide +kernel
theorem d_M_questions_77 : decode m_M_questions.2.1 77 = .ok (.getfield 392, 3) := by decide +kernel
theorem d_M_questions_80 : decode m_M_questions.2.1 80 = .ok (.iastore, 1) := by decide +kernel
theorem d_M_questions_81 : decode m_M_questions.2.1 81 = .ok (.iconst 0, 1) := by decide +kernel
theorem d_M_questions_82 : decode m_M_questions.2.1 82 = .ok (.istore_n 2, 1) := by decide +kernel
theorem d_M_questions_83 : decode m_M_questions.2.1 83 = .ok (.iload_n 2, 1) := by decide +kernel
theorem d_M_questions_84 : decode m_M_questions.2.1 84 = .ok (.aload_n 0, 1) := by decide +kernel
theorem d_M_questions_85 : decode m_M_questions.2.1 85 = .ok (.getfield 360, 3) := by decide +kernel
theorem d_M_questions_88 : decode m_M_questions.2.1 88 = .ok (.if_icmp .ge 27, 3) := by decide +kernel
theorem d_M_questions_91 : decode m_M_questions.2.1 91 = .ok (.aload_n 0, 1) := by decide +kernel
theorem d_M_questions_92 : decode m_M_questions.2.1 92 = .ok (.getfield 111, 3) := by decide +kernel
theorem d_M_questions_95 : decode m_M_questions.2.1 95 = .ok (.bipush 12, 2) := by decide +kernel
theorem d_M_questions_97 : decode m_M_questions.2.1 97 = .ok (.iload_n 1, 1) := by decide +kernel
theorem d_M_questions_98 : decode m_M_questions.2.1 98 = .ok (.imul, 1) := by decide +kernel
theorem d_M_questions_99 : decode m_M_questions.2.1 99 = .ok (.iload_n 2, 1) := by decide +kernel
theorem d_M_questions_100 : decode m_M_questions.2.1 100 = .ok (.iadd, 1) := by decide +kernel
theorem d_M_questions_101 : decode m_M_questions.2.1 101 = .ok (.aload_n 0, 1) := by decide +kernel
theorem d_M_questions_102 : decode m_M_questions.2.1 102 = .ok (.getfield 123, 3) := by decide +kernel
theorem d_M_questions_105 : decode m_M_questions.2.1 105 = .ok (.iload_n 2, 1) := by decide +kernel
theorem d_M_questions_106 : decode m_M_questions.2.1 106 = .ok (.iaload, 1) := by decide +kernel
theorem d_M_questions_107 : decode m_M_questions.2.1 107 = .ok (.i2b, 1) := by decide +kernel
theorem d_M_questions_108 : decode m_M_questions.2.1 108 = .ok (.bastore, 1) := by decide +kernel
theorem d_M_questions_109 : decode m_M_questions.2.1 109 = .ok (.iinc 2 1, 3) := by decide +kernel
theorem d_M_questions_112 : decode m_M_questions.2.1 112 = .ok (.goto (-29), 3) := by decide +kernel
theorem d_M_questions_115 : decode m_M_questions.2.1 115 = .ok (.iinc 1 1, 3) := by decide +kernel
theorem d_M_questions_118 : decode m_M_questions.2.1 118 = .ok (.goto (-93), 3) := by decide +kernel
theorem d_M_questions_121 : decode m_M_questions.2.1 121 = .ok (.iconst 1, 1) := by decide +kernel
theorem d_M_questions_122 : decode m_M_questions.2.1 122 = .ok (.ireturn, 1) := by decide +kernel
theorem d_M_spread_0 : decode m_M_spread.2.1 0 = .ok (.iload_n 1, 1) := by decide +kernel
theorem d_M_spread_1 : decode m_M_spread.2.1 1 = .ok (.istore_n 3, 1) := by decide +kernel
theorem d_M_spread_2 : decode m_M_spread.2.1 2 = .ok (.aload_n 0, 1) := by decide +kernel
theorem d_M_spread_3 : decode m_M_spread.2.1 3 = .ok (.getfield 357, 3) := by decide +kernel
theorem d_M_spread_6 : decode m_M_spread.2.1 6 = .ok (.iconst 1, 1) := by decide +kernel
theorem d_M_spread_7 : decode m_M_spread.2.1 7 = .ok (.isub, 1) := by decide +kernel
theorem d_M_spread_8 : decode m_M_spread.2.1 8 = .ok (.istore 4, 2) := by decide +kernel
theorem d_M_spread_10 : decode m_M_spread.2.1 10 = .ok (.iload 4, 2) := by decide +kernel
theorem d_M_spread_12 : decode m_M_spread.2.1 12 = .ok (.ifCond .lt 34, 3) := by decide +kernel
theorem d_M_spread_15 : decode m_M_spread.2.1 15 = .ok (.aload_n 2, 1) := by decide +kernel
theorem d_M_spread_16 : decode m_M_spread.2.1 16 = .ok (.iload 4, 2) := by decide +kernel
theorem d_M_spread_18 : decode m_M_spread.2.1 18 = .ok (.iload_n 3, 1) := by decide +kernel
theorem d_M_spread_19 : decode m_M_spread.2.1 19 = .ok (.aload_n 0, 1) := by decide +kernel
theorem d_M_spread_20 : decode m_M_spread.2.1 20 = .ok (.getfield 49, 3) := by decide +kernel
theorem d_M_spread_23 : decode m_M_spread.2.1 23 = .ok (.iload 4, 2) := by decide +kernel
theorem d_M_spread_25 : decode m_M_spread.2.1 25 = .ok (.iaload, 1) := by decide +kernel
theorem d_M_spread_26 : decode m_M_spread.2.1 26 = .ok (.invokestatic 384, 3) := by decide +kernel
theorem d_M_spread_29 : decode m_M_spread.2.1 29 = .ok (.iastore, 1) := by decide +kernel
theorem d_M_spread_30 : decode m_M_spread.2.1 30 = .ok (.iload_n 3, 1) := by decide +kernel
theorem d_M_spread_31 : decode m_M_spread.2.1 31 = .ok (.aload_n 0, 1) := by decide +kernel
theorem d_M_spread_32 : decode m_M_spread.2.1 32 = .ok (.getfield 49, 3) := by decide +kernel
theorem d_M_spread_35 : decode m_M_spread.2.1 35 = .ok (.iload 4, 2) := by decide +kernel
theorem d_M_spread_37 : decode m_M_spread.2.1 37 = .ok (.iaload, 1) := by decide +kernel
theorem d_M_spread_38 : decode m_M_spread.2.1 38 = .ok (.ishr, 1) := by decide +kernel
theorem d_M_spread_39 : decode m_M_spread.2.1 39 = .ok (.istore_n 3, 1) := by decide +kernel
theorem d_M_spread_40 : decode m_M_spread.2.1 40 = .ok (.iinc 4 (-1), 3) := by decide +kernel
theorem d_M_spread_43 : decode m_M_spread.2.1 43 = .ok (.goto (-33), 3) := by decide +kernel
theorem d_M_spread_46 : decode m_M_spread.2.1 46 = .ok (.return_, 1) := by decide +kernel
theorem cd_M_spelled : q_cd m_M_spelled := ⟨by decide +kernel, List.mem_of_getElem? (i := 17) (by decide +kernel), Or.inl ⟨rfl, List.mem_of_getElem? (i := 1779) (by decide +kernel)⟩⟩
theorem cS_M_170 : q_CS "ProofHallModel" 170 m_M_spelled 1 := ⟨⟨cd_M_spelled, by decide, by decide, by decide, by decide +kernel⟩, Or.inl (List.mem_of_getElem? (i := 1777) (by decide +kernel)), List.mem_of_getElem? (i := 1778) (by decide +kernel)⟩
theorem cd_M_declaration : q_cd m_M_declaration := ⟨by decide +kernel, List.mem_of_getElem? (i := 17) (by decide +kernel), Or.inl ⟨rfl, List.mem_of_getElem? (i := 1866) (by decide +kernel)⟩⟩
theorem cV_M_327 : q_CV "ProofHallModel" 327 12 m_M_declaration 0 := ⟨⟨cd_M_declaration, by decide, by decide, by decide, by decide +kernel⟩, Or.inl (List.mem_of_getElem? (i := 1863) (by decide +kernel)), List.mem_of_getElem? (i := 1865) (by decide +kernel), _, _, _, rfl, by decide +kernel⟩
theorem cd_M_statement : q_cd m_M_statement := ⟨by decide +kernel, List.mem_of_getElem? (i := 17) (by decide +kernel), Or.inl ⟨rfl, List.mem_of_getElem? (i := 1890) (by decide +kernel)⟩⟩
theorem cV_M_277 : q_CV "ProofHallModel" 277 12 m_M_statement 0 := ⟨⟨cd_M_statement, by decide, by decide, by decide, by decide +kernel⟩, Or.inl (List.mem_of_getElem? (i := 1887) (by decide +kernel)), List.mem_of_getElem? (i := 1889) (by decide +kernel), _, _, _, rfl, by decide +kernel⟩
theorem cd_M_taken : q_cd m_M_taken := ⟨by decide +kernel, List.mem_of_getElem? (i := 17) (by decide +kernel), Or.inl ⟨rfl, List.mem_of_getElem? (i := 1870) (by decide +kernel)⟩⟩
theorem cV_M_234 : q_CV "ProofHallModel" 234 12 m_M_taken 0 := ⟨⟨cd_M_taken, by decide, by decide, by decide, by decide +kernel⟩, Or.inl (List.mem_of_getElem? (i := 1867) (by decide +kernel)), List.mem_of_getElem? (i := 1869) (by decide +kernel), _, _, _, rfl, by decide +kernel⟩
theorem cd_M_expect : q_cd m_M_expect := ⟨by decide +kernel, List.mem_of_getElem? (i := 17) (by decide +kernel), Or.inl ⟨rfl, List.mem_of_getElem? (i := 1878) (by decide +kernel)⟩⟩
theorem cV_M_249 : q_CV "ProofHallModel" 249 12 m_M_expect 1 := ⟨⟨cd_M_expect, by decide, by decide, by decide, by decide +kernel⟩, Or.inl (List.mem_of_getElem? (i := 1875) (by decide +kernel)), List.mem_of_getElem? (i := 1877) (by decide +kernel), _, _, _, rfl, by decide +kernel⟩
theorem f_M_23 : q_FR "ProofHallModel" 23 12 6 := ⟨"[J", by decide, ⟨_, _, _, rfl, by decide, rfl, Or.inl (List.mem_of_getElem? (i := 1538) (by decide +kernel))⟩⟩
theorem cd_M_lookUp : q_cd m_M_lookUp := ⟨by decide +kernel, List.mem_of_getElem? (i := 17) (by decide +kernel), Or.inl ⟨rfl, List.mem_of_getElem? (i := 1882) (by decide +kernel)⟩⟩
theorem cV_M_252 : q_CV "ProofHallModel" 252 12 m_M_lookUp 1 := ⟨⟨cd_M_lookUp, by decide, by decide, by decide, by decide +kernel⟩, Or.inl (List.mem_of_getElem? (i := 1879) (by decide +kernel)), List.mem_of_getElem? (i := 1881) (by decide +kernel), _, _, _, rfl, by decide +kernel⟩
theorem f_M_20 : q_FR "ProofHallModel" 20 12 5 := ⟨"[I", by decide, ⟨_, _, _, rfl, by decide, rfl, Or.inl (List.mem_of_getElem? (i := 1537) (by decide +kernel))⟩⟩
theorem cd_M_found : q_cd m_M_found := ⟨by decide +kernel, List.mem_of_getElem? (i := 17) (by decide +kernel), Or.inl ⟨rfl, List.mem_of_getElem? (i := 1886) (by decide +kernel)⟩⟩
theorem cV_M_255 : q_CV "ProofHallModel" 255 12 m_M_found 2 := ⟨⟨cd_M_found, by decide, by decide, by decide, by decide +kernel⟩, Or.inl (List.mem_of_getElem? (i := 1883) (by decide +kernel)), List.mem_of_getElem? (i := 1885) (by decide +kernel), _, _, _, rfl, by decide +kernel⟩
theorem f_M_37 : q_FR "ProofHallModel" 37 12 13 := ⟨"[J", by decide, ⟨_, _, _, rfl, by decide, rfl, Or.inl (List.mem_of_getElem? (i := 1545) (by decide +kernel))⟩⟩
theorem f_M_246 : q_F "ProofHallModel" 246 12 17 "I" := ⟨_, _, _, rfl, by decide, rfl, Or.inl (List.mem_of_getElem? (i := 1549) (by decide +kernel))⟩
theorem f_M_40 : q_FR "ProofHallModel" 40 12 14 := ⟨"[I", by decide, ⟨_, _, _, rfl, by decide, rfl, Or.inl (List.mem_of_getElem? (i := 1546) (by decide +kernel))⟩⟩
theorem f_M_43 : q_FR "ProofHallModel" 43 12 15 := ⟨"[I", by decide, ⟨_, _, _, rfl, by decide, rfl, Or.inl (List.mem_of_getElem? (i := 1547) (by decide +kernel))⟩⟩
theorem f_M_46 : q_FR "ProofHallModel" 46 12 16 := ⟨"[I", by decide, ⟨_, _, _, rfl, by decide, rfl, Or.inl (List.mem_of_getElem? (i := 1548) (by decide +kernel))⟩⟩
theorem f_M_224 : q_F "ProofHallModel" 224 12 9 "I" := ⟨_, _, _, rfl, by decide, rfl, Or.inl (List.mem_of_getElem? (i := 1541) (by decide +kernel))⟩
theorem cd_M_bad : q_cd m_M_bad := ⟨by decide +kernel, List.mem_of_getElem? (i := 17) (by decide +kernel), Or.inl ⟨rfl, List.mem_of_getElem? (i := 1874) (by decide +kernel)⟩⟩
theorem cV_M_230 : q_CV "ProofHallModel" 230 12 m_M_bad 0 := ⟨⟨cd_M_bad, by decide, by decide, by decide, by decide +kernel⟩, Or.inl (List.mem_of_getElem? (i := 1871) (by decide +kernel)), List.mem_of_getElem? (i := 1873) (by decide +kernel), _, _, _, rfl, by decide +kernel⟩
theorem g_M_221 (nm : String) : q_G "ProofHallModel" 221 12 10 "I" nm := ⟨_, _, _, rfl, by decide, rfl, List.mem_of_getElem? (i := 1542) (by decide +kernel), Or.inl rfl⟩
theorem f_M_30 : q_FR "ProofHallModel" 30 12 11 := ⟨"Ljava/lang/ArithmeticException;", by decide, ⟨_, _, _, rfl, by decide, rfl, Or.inl (List.mem_of_getElem? (i := 1543) (by decide +kernel))⟩⟩
theorem g_M_240 (nm : String) : q_G "ProofHallModel" 240 12 49 "I" nm := ⟨_, _, _, rfl, by decide, rfl, List.mem_of_getElem? (i := 1580) (by decide +kernel), Or.inl rfl⟩
theorem f_M_240 : q_F "ProofHallModel" 240 12 49 "I" := ⟨_, _, _, rfl, by decide, rfl, Or.inl (List.mem_of_getElem? (i := 1580) (by decide +kernel))⟩
theorem cd_M_inBrackets : q_cd m_M_inBrackets := ⟨by decide +kernel, List.mem_of_getElem? (i := 17) (by decide +kernel), Or.inl ⟨rfl, List.mem_of_getElem? (i := 1910) (by decide +kernel)⟩⟩
theorem cV_M_274 : q_CV "ProofHallModel" 274 12 m_M_inBrackets 0 := ⟨⟨cd_M_inBrackets, by decide, by decide, by decide, by decide +kernel⟩, Or.inl (List.mem_of_getElem? (i := 1907) (by decide +kernel)), List.mem_of_getElem? (i := 1909) (by decide +kernel), _, _, _, rfl, by decide +kernel⟩
theorem cd_M_expr : q_cd m_M_expr := ⟨by decide +kernel, List.mem_of_getElem? (i := 17) (by decide +kernel), Or.inl ⟨rfl, List.mem_of_getElem? (i := 1894) (by decide +kernel)⟩⟩
theorem cV_M_267 : q_CV "ProofHallModel" 267 12 m_M_expr 0 := ⟨⟨cd_M_expr, by decide, by decide, by decide, by decide +kernel⟩, Or.inl (List.mem_of_getElem? (i := 1891) (by decide +kernel)), List.mem_of_getElem? (i := 1893) (by decide +kernel), _, _, _, rfl, by decide +kernel⟩
theorem cd_M_node : q_cd m_M_node := ⟨by decide +kernel, List.mem_of_getElem? (i := 17) (by decide +kernel), Or.inl ⟨rfl, List.mem_of_getElem? (i := 1906) (by decide +kernel)⟩⟩
theorem cV_M_270 : q_CV "ProofHallModel" 270 12 m_M_node 4 := ⟨⟨cd_M_node, by decide, by decide, by decide, by decide +kernel⟩, Or.inl (List.mem_of_getElem? (i := 1903) (by decide +kernel)), List.mem_of_getElem? (i := 1905) (by decide +kernel), _, _, _, rfl, by decide +kernel⟩
theorem cd_M_level : q_cd m_M_level := ⟨by decide +kernel, List.mem_of_getElem? (i := 17) (by decide +kernel), Or.inl ⟨rfl, List.mem_of_getElem? (i := 1898) (by decide +kernel)⟩⟩
theorem cV_M_283 : q_CV "ProofHallModel" 283 12 m_M_level 1 := ⟨⟨cd_M_level, by decide, by decide, by decide, by decide +kernel⟩, Or.inl (List.mem_of_getElem? (i := 1895) (by decide +kernel)), List.mem_of_getElem? (i := 1897) (by decide +kernel), _, _, _, rfl, by decide +kernel⟩
theorem cd_M_unary : q_cd m_M_unary := ⟨by decide +kernel, List.mem_of_getElem? (i := 17) (by decide +kernel), Or.inl ⟨rfl, List.mem_of_getElem? (i := 1902) (by decide +kernel)⟩⟩
theorem cV_M_289 : q_CV "ProofHallModel" 289 12 m_M_unary 0 := ⟨⟨cd_M_unary, by decide, by decide, by decide, by decide +kernel⟩, Or.inl (List.mem_of_getElem? (i := 1899) (by decide +kernel)), List.mem_of_getElem? (i := 1901) (by decide +kernel), _, _, _, rfl, by decide +kernel⟩
theorem cd_M_levelOf : q_cd m_M_levelOf := ⟨by decide +kernel, List.mem_of_getElem? (i := 17) (by decide +kernel), Or.inl ⟨rfl, List.mem_of_getElem? (i := 1918) (by decide +kernel)⟩⟩
theorem cS_M_292 : q_CS "ProofHallModel" 292 m_M_levelOf 1 := ⟨⟨cd_M_levelOf, by decide, by decide, by decide, by decide +kernel⟩, Or.inl (List.mem_of_getElem? (i := 1916) (by decide +kernel)), List.mem_of_getElem? (i := 1917) (by decide +kernel)⟩
theorem cd_JI_numberOfLeadingZeros : q_cd m_JI_numberOfLeadingZeros := ⟨by decide +kernel, List.mem_of_getElem? (i := 29) (by decide +kernel), Or.inl ⟨rfl, List.mem_of_getElem? (i := 1913) (by decide +kernel)⟩⟩
theorem cS_M_295 : q_CS "ProofHallModel" 295 m_JI_numberOfLeadingZeros 1 := ⟨⟨cd_JI_numberOfLeadingZeros, by decide, by decide, by decide, by decide +kernel⟩, Or.inl (List.mem_of_getElem? (i := 1911) (by decide +kernel)), List.mem_of_getElem? (i := 1912) (by decide +kernel)⟩
theorem f_M_243 : q_F "ProofHallModel" 243 12 44 "I" := ⟨_, _, _, rfl, by decide, rfl, Or.inl (List.mem_of_getElem? (i := 1576) (by decide +kernel))⟩
theorem g_M_330 (nm : String) : q_G "ProofHallModel" 330 12 50 "I" nm := ⟨_, _, _, rfl, by decide, rfl, List.mem_of_getElem? (i := 1581) (by decide +kernel), Or.inl rfl⟩
theorem g_M_101 (nm : String) : q_G "ProofHallModel" 101 12 51 "I" nm := ⟨_, _, _, rfl, by decide, rfl, List.mem_of_getElem? (i := 1582) (by decide +kernel), Or.inl rfl⟩
theorem cd_M_workOfOne : q_cd m_M_workOfOne := ⟨by decide +kernel, List.mem_of_getElem? (i := 17) (by decide +kernel), Or.inl ⟨rfl, List.mem_of_getElem? (i := 1930) (by decide +kernel)⟩⟩
theorem cV_M_319 : q_CV "ProofHallModel" 319 12 m_M_workOfOne 1 := ⟨⟨cd_M_workOfOne, by decide, by decide, by decide, by decide +kernel⟩, Or.inl (List.mem_of_getElem? (i := 1927) (by decide +kernel)), List.mem_of_getElem? (i := 1929) (by decide +kernel), _, _, _, rfl, by decide +kernel⟩
theorem cd_M_most : q_cd m_M_most := ⟨by decide +kernel, List.mem_of_getElem? (i := 17) (by decide +kernel), Or.inl ⟨rfl, List.mem_of_getElem? (i := 1941) (by decide +kernel)⟩⟩
theorem cS_M_312 : q_CS "ProofHallModel" 312 m_M_most 1 := ⟨⟨cd_M_most, by decide, by decide, by decide, by decide +kernel⟩, Or.inl (List.mem_of_getElem? (i := 1939) (by decide +kernel)), List.mem_of_getElem? (i := 1940) (by decide +kernel)⟩
theorem cd_M_workOf : q_cd m_M_workOf := ⟨by decide +kernel, List.mem_of_getElem? (i := 17) (by decide +kernel), Or.inl ⟨rfl, List.mem_of_getElem? (i := 1934) (by decide +kernel)⟩⟩
theorem cV_M_308 : q_CV "ProofHallModel" 308 12 m_M_workOf 1 := ⟨⟨cd_M_workOf, by decide, by decide, by decide, by decide +kernel⟩, Or.inl (List.mem_of_getElem? (i := 1931) (by decide +kernel)), List.mem_of_getElem? (i := 1933) (by decide +kernel), _, _, _, rfl, by decide +kernel⟩
theorem cd_M_isTwo : q_cd m_M_isTwo := ⟨by decide +kernel, List.mem_of_getElem? (i := 17) (by decide +kernel), Or.inl ⟨rfl, List.mem_of_getElem? (i := 1938) (by decide +kernel)⟩⟩
theorem cV_M_305 : q_CV "ProofHallModel" 305 12 m_M_isTwo 1 := ⟨⟨cd_M_isTwo, by decide, by decide, by decide, by decide +kernel⟩, Or.inl (List.mem_of_getElem? (i := 1935) (by decide +kernel)), List.mem_of_getElem? (i := 1937) (by decide +kernel), _, _, _, rfl, by decide +kernel⟩
theorem cd_M_workOfOther : q_cd m_M_workOfOther := ⟨by decide +kernel, List.mem_of_getElem? (i := 17) (by decide +kernel), Or.inl ⟨rfl, List.mem_of_getElem? (i := 1949) (by decide +kernel)⟩⟩
theorem cV_M_316 : q_CV "ProofHallModel" 316 12 m_M_workOfOther 1 := ⟨⟨cd_M_workOfOther, by decide, by decide, by decide, by decide +kernel⟩, Or.inl (List.mem_of_getElem? (i := 1946) (by decide +kernel)), List.mem_of_getElem? (i := 1948) (by decide +kernel), _, _, _, rfl, by decide +kernel⟩
theorem f_M_366 : q_F "ProofHallModel" 366 12 29 "I" := ⟨_, _, _, rfl, by decide, rfl, Or.inl (List.mem_of_getElem? (i := 1561) (by decide +kernel))⟩
theorem cd_M_asked : q_cd m_M_asked := ⟨by decide +kernel, List.mem_of_getElem? (i := 17) (by decide +kernel), Or.inl ⟨rfl, List.mem_of_getElem? (i := 1993) (by decide +kernel)⟩⟩
theorem cV_M_406 : q_CV "ProofHallModel" 406 12 m_M_asked 1 := ⟨⟨cd_M_asked, by decide, by decide, by decide, by decide +kernel⟩, Or.inl (List.mem_of_getElem? (i := 1990) (by decide +kernel)), List.mem_of_getElem? (i := 1992) (by decide +kernel), _, _, _, rfl, by decide +kernel⟩
theorem f_M_104 : q_FR "ProofHallModel" 104 12 52 := ⟨"[B", by decide, ⟨_, _, _, rfl, by decide, rfl, Or.inl (List.mem_of_getElem? (i := 1583) (by decide +kernel))⟩⟩
theorem f_M_369 : q_F "ProofHallModel" 369 12 55 "Z" := ⟨_, _, _, rfl, by decide, rfl, Or.inl (List.mem_of_getElem? (i := 1586) (by decide +kernel))⟩
theorem f_M_114 : q_FR "ProofHallModel" 114 12 56 := ⟨"[I", by decide, ⟨_, _, _, rfl, by decide, rfl, Or.inl (List.mem_of_getElem? (i := 1587) (by decide +kernel))⟩⟩
theorem cd_M_spread : q_cd m_M_spread := ⟨by decide +kernel, List.mem_of_getElem? (i := 17) (by decide +kernel), Or.inl ⟨rfl, List.mem_of_getElem? (i := 1963) (by decide +kernel)⟩⟩
theorem cV_M_395 : q_CV "ProofHallModel" 395 12 m_M_spread 2 := ⟨⟨cd_M_spread, by decide, by decide, by decide, by decide +kernel⟩, Or.inl (List.mem_of_getElem? (i := 1960) (by decide +kernel)), List.mem_of_getElem? (i := 1962) (by decide +kernel), _, _, _, rfl, by decide +kernel⟩
theorem cd_M_runWhole : q_cd m_M_runWhole := ⟨by decide +kernel, List.mem_of_getElem? (i := 17) (by decide +kernel), Or.inl ⟨rfl, List.mem_of_getElem? (i := 1970) (by decide +kernel)⟩⟩
theorem cV_M_399 : q_CV "ProofHallModel" 399 12 m_M_runWhole 0 := ⟨⟨cd_M_runWhole, by decide, by decide, by decide, by decide +kernel⟩, Or.inl (List.mem_of_getElem? (i := 1967) (by decide +kernel)), List.mem_of_getElem? (i := 1969) (by decide +kernel), _, _, _, rfl, by decide +kernel⟩
theorem f_M_107 : q_FR "ProofHallModel" 107 12 53 := ⟨"[B", by decide, ⟨_, _, _, rfl, by decide, rfl, Or.inl (List.mem_of_getElem? (i := 1584) (by decide +kernel))⟩⟩
theorem f_M_392 : q_F "ProofHallModel" 392 12 61 "I" := ⟨_, _, _, rfl, by decide, rfl, Or.inl (List.mem_of_getElem? (i := 1592) (by decide +kernel))⟩
theorem f_M_138 : q_FR "ProofHallModel" 138 12 66 := ⟨"[I", by decide, ⟨_, _, _, rfl, by decide, rfl, Or.inl (List.mem_of_getElem? (i := 1597) (by decide +kernel))⟩⟩
theorem f_M_111 : q_FR "ProofHallModel" 111 12 54 := ⟨"[B", by decide, ⟨_, _, _, rfl, by decide, rfl, Or.inl (List.mem_of_getElem? (i := 1585) (by decide +kernel))⟩⟩
theorem f_M_123 : q_FR "ProofHallModel" 123 12 59 := ⟨"[I", by decide, ⟨_, _, _, rfl, by decide, rfl, Or.inl (List.mem_of_getElem? (i := 1590) (by decide +kernel))⟩⟩
theorem cd_M_cut_2 : q_cd m_M_cut_2 := ⟨by decide +kernel, List.mem_of_getElem? (i := 17) (by decide +kernel), Or.inl ⟨rfl, List.mem_of_getElem? (i := 1966) (by decide +kernel)⟩⟩
theorem cS_M_384 : q_CS "ProofHallModel" 384 m_M_cut_2 2 := ⟨⟨cd_M_cut_2, by decide, by decide, by decide, by decide +kernel⟩, Or.inl (List.mem_of_getElem? (i := 1964) (by decide +kernel)), List.mem_of_getElem? (i := 1965) (by decide +kernel)⟩
theorem c_M_kind2 {ω : q_W} {σ : q_H} {d : Nat} {e0 : Int} {e1 : Int}  (hE : q_E σ) (c0 : (0 ≤ e0 ∧ e0 < 4098)) (he0 : q_i σ 94 8 = zI e0) (he1 : q_i σ 96 e0.toNat = zI e1) : J ω m_M_kind d 0 0 0 0 0 [(0, .ref 94)] [] σ (fun r τ => r = .inl (some (.int (zI e1))) ∧ τ = σ) := by
  refine j_aload_n d_M_kind_0 0 rfl ?_
  refine j_getR 96 f_M_13 d_M_kind_1 (tg_94 hE) (q_okE hE (by decide)) (rf_94_3 hE) (by decide) ?_
  refine j_aload_n d_M_kind_4 0 rfl ?_
  refine zj_getI e0 f_M_218 d_M_kind_5 (tg_94 hE) (q_okE hE (by decide)) he0 ?_
  skip
  refine zj_iald e1 d_M_kind_8 (tg_96 hE) (q_okE hE (by decide)) c0 (by decide) he1 ?_
  exact zj_iret d_M_kind_9 rfl (Nat.zero_le _) (Nat.zero_le _) ⟨rfl, rfl⟩
set_option maxHeartbeats 2000000 in
theorem b_M_look_0 {ω : q_W} {σ : q_H} {Q : q_R → q_H → Prop} {d mc ms : Nat} {x1 : Int} {s : Nat} (hs : s = 110 ∨ s = 116) (rs0 : q_r σ 94 32 = s) (rs1 : q_r σ 94 33 = (s + 1)) (rs2 : q_r σ 94 34 = (s + 2)) (rs3 : q_r σ 94 35 = (s + 3)) (rs4 : q_r σ 94 36 = (s + 4)) (rs5 : q_r σ 94 37 = (s + 5)) (hE : q_E σ) (h : inR x1 ∧ q_imp (x1 ≥ (z σ 94 2)) ((Q (.inl (some (.int (zI (-1))))) σ)) ∧ q_imp (x1 < (z σ 94 2)) ((0 ≤ x1 ∧ x1 < 4096) ∧ (Q (.inl (some (.int (zI (zAnd (z σ 95 x1.toNat) 255))))) σ))) : J ω m_M_look d mc ms 0 0 0 [(0, .ref 94), (1, .int (zI x1))] [] σ Q := by
  refine j_iload_n d_M_look_0 1 rfl ?_
  refine j_aload_n d_M_look_1 0 rfl ?_
  refine zj_getI (z σ 94 2) f_M_144 d_M_look_2 (tg_94 hE) (q_okE hE (by decide)) (q_z _ _ _) ?_
  obtain ⟨r1, h⟩ := h
  obtain ⟨h1, h2⟩ := h
  refine zj_icmp_ge 21 d_M_look_5 (by decide) r1 (z_R _ _ _) (fun k2 => ?_) (fun k2 => ?_)
  · have h := h1 k2
    refine j_iconst (v := zI (-1)) d_M_look_21 (by decide) ?_
    exact zj_iret d_M_look_22 rfl (Nat.zero_le _) (Nat.zero_le _) h
  · have h := h2 k2
    refine j_aload_n d_M_look_8 0 rfl ?_
    refine j_getR 95 f_M_7 d_M_look_9 (tg_94 hE) (q_okE hE (by decide)) (rf_94_1 hE) (by decide) ?_
    refine j_iload_n d_M_look_12 1 rfl ?_
    obtain ⟨c3, h⟩ := h
    refine zj_bald (z σ 95 x1.toNat) d_M_look_13 (tg_95 hE) (q_okE hE (by decide)) c3 (by decide) (q_z _ _ _) ?_
    refine j_sipush (v := zI 255) d_M_look_14 (by decide) ?_
    refine zj_iand d_M_look_17 ?_
    refine j_goto 22 d_M_look_18 (by decide) ?_
    exact zj_iret d_M_look_22 rfl (Nat.zero_le _) (Nat.zero_le _) h
set_option maxHeartbeats 2000000 in
theorem b_M_token_0 {ω : q_W} {σ : q_H} {Q : q_R → q_H → Prop} {d mc ms : Nat} {x1 : Int} {x2 : Int} {s : Nat} (hs : s = 110 ∨ s = 116) (rs0 : q_r σ 94 32 = s) (rs1 : q_r σ 94 33 = (s + 1)) (rs2 : q_r σ 94 34 = (s + 2)) (rs3 : q_r σ 94 35 = (s + 3)) (rs4 : q_r σ 94 36 = (s + 4)) (rs5 : q_r σ 94 37 = (s + 5)) (hE : q_E σ) (h : (0 ≤ (z σ 94 7) ∧ (z σ 94 7) < 4098) ∧ (Q (.inl none) (zs (zs (zs σ 96 (z σ 94 7).toNat x1) 97 (z σ 94 7).toNat x2) 94 7 ((z σ 94 7) + 1)))) : J ω m_M_token d mc ms 0 0 0 [(0, .ref 94), (1, .int (zI x1)), (2, .int (zI x2))] [] σ Q := by
  refine j_aload_n d_M_token_0 0 rfl ?_
  refine j_getR 96 f_M_13 d_M_token_1 (tg_94 hE) (q_okE hE (by decide)) (rf_94_3 hE) (by decide) ?_
  refine j_aload_n d_M_token_4 0 rfl ?_
  refine zj_getI (z σ 94 7) f_M_155 d_M_token_5 (tg_94 hE) (q_okE hE (by decide)) (q_z _ _ _) ?_
  refine j_iload_n d_M_token_8 1 rfl ?_
  obtain ⟨c1, h⟩ := h
  refine zj_iast d_M_token_9 (tg_96 hE) (q_okE hE (by decide)) c1 (by decide) ?_
  refine j_aload_n d_M_token_10 0 rfl ?_
  refine j_getR 97 f_M_17 d_M_token_11 (tg_94 (zs_E hE)) (q_okE (zs_E hE) (by decide)) (rf_94_4 (zs_E hE)) (by decide) ?_
  refine j_aload_n d_M_token_14 0 rfl ?_
  refine zj_getI (z σ 94 7) f_M_155 d_M_token_15 (tg_94 (zs_E hE)) (q_okE (zs_E hE) (by decide)) (Eq.trans (qs_o (by decide)) (q_z _ _ _)) ?_
  refine j_iload_n d_M_token_18 2 rfl ?_
  refine zj_iast d_M_token_19 (tg_97 (zs_E hE)) (q_okE (zs_E hE) (by decide)) c1 (by decide) ?_
  refine j_aload_n d_M_token_20 0 rfl ?_
  refine j_dup d_M_token_21 rfl ?_
  refine zj_getI (z σ 94 7) f_M_155 d_M_token_22 (tg_94 (zs_E (zs_E hE))) (q_okE (zs_E (zs_E hE)) (by decide)) (Eq.trans (qs_o (by decide)) (Eq.trans (qs_o (by decide)) (q_z _ _ _))) ?_
  refine j_iconst (v := zI 1) d_M_token_25 (by decide) ?_
  refine zj_iadd ((z σ 94 7) + 1) (by omega) d_M_token_26 ?_
  refine zj_putI (g_M_155 _) d_M_token_27 (tg_94 (zs_E (zs_E hE))) (q_okE (zs_E (zs_E hE)) (by decide)) ?_
  exact j_vret d_M_token_30 rfl (Nat.zero_le _) (Nat.zero_le _) h
set_option maxHeartbeats 2000000 in
theorem b_M_word_0 {ω : q_W} {σ : q_H} {Q : q_R → q_H → Prop} {d mc ms : Nat} {x1 : Int64} {s : Nat} (hs : s = 110 ∨ s = 116) (rs0 : q_r σ 94 32 = s) (rs1 : q_r σ 94 33 = (s + 1)) (rs2 : q_r σ 94 34 = (s + 2)) (rs3 : q_r σ 94 35 = (s + 3)) (rs4 : q_r σ 94 36 = (s + 4)) (rs5 : q_r σ 94 37 = (s + 5)) (hE : q_E σ) (h : (J ω m_M_spelled d 0 0 0 0 0 [(0, .ref 1000017)] [] σ (q_kl (fun v τ => J ω m_M_word (d + 1) mc ms 0 0 6 [(1, .long x1)] [.long v, .long x1] τ Q)))) : J ω m_M_word (d + 1) mc ms 0 0 0 [(0, .ref 94), (1, .long x1)] [] σ Q := by
  refine j_lload_n d_M_word_0 1 rfl ?_
  refine j_ldcS 7 rfl d_M_word_1 ?_
  refine j_callS m_M_spelled [.ref 1000017] [.long x1] d 0 0 cS_M_170 d_M_word_3 rfl rfl (Nat.le_of_ble_eq_true rfl) (Nat.le_refl _) (Nat.le_of_ble_eq_true rfl) (Nat.zero_le _) (Nat.zero_le _) h (fun v τ h => ?_) (fun x τ h => ?_)
  · obtain ⟨v, e1, h⟩ := h; cases e1; exact j_sel [1] rfl h
  · obtain ⟨v, e1, h⟩ := h; cases e1
set_option maxHeartbeats 2000000 in
theorem b_M_word_6 {ω : q_W} {σ : q_H} {Q : q_R → q_H → Prop} {d mc ms : Nat} {x1 : Int64} {y0 : Int64} {y1 : Int64} {s : Nat} (hs : s = 110 ∨ s = 116) (rs0 : q_r σ 94 32 = s) (rs1 : q_r σ 94 33 = (s + 1)) (rs2 : q_r σ 94 34 = (s + 2)) (rs3 : q_r σ 94 35 = (s + 3)) (rs4 : q_r σ 94 36 = (s + 4)) (rs5 : q_r σ 94 37 = (s + 5)) (hE : q_E σ) (h : q_imp (y1 ≠ y0) ((J ω m_M_spelled d 0 0 0 0 0 [(0, .ref 1000018)] [] σ (q_kl (fun v τ => J ω m_M_word (d + 1) mc ms 0 0 20 [(1, .long x1)] [.long v, .long x1] τ Q)))) ∧ q_imp (y1 = y0) ((Q (.inl (some (.int (zI 256)))) σ))) : J ω m_M_word (d + 1) mc ms 0 0 6 [(1, .long x1)] [.long y0, .long y1] σ Q := by
  obtain ⟨h1, h2⟩ := h
  refine zj_lcmp_ne 14 d_M_word_6 d_M_word_7 (by decide) (fun k1 => ?_) (fun k1 => ?_)
  · have h := h1 k1
    refine j_lload_n d_M_word_14 0 rfl ?_
    refine j_ldcS 8 rfl d_M_word_15 ?_
    refine j_callS m_M_spelled [.ref 1000018] [.long x1] d 0 0 cS_M_170 d_M_word_17 rfl rfl (Nat.le_of_ble_eq_true rfl) (Nat.le_refl _) (Nat.le_of_ble_eq_true rfl) (Nat.zero_le _) (Nat.zero_le _) h (fun v τ h => ?_) (fun x τ h => ?_)
    · obtain ⟨v, e1, h⟩ := h; cases e1; exact j_sel [0] rfl h
    · obtain ⟨v, e1, h⟩ := h; cases e1
  · have h := h2 k1
    refine j_sipush (v := zI 256) d_M_word_10 (by decide) ?_
    exact zj_iret d_M_word_13 rfl (Nat.zero_le _) (Nat.zero_le _) h
set_option maxHeartbeats 2000000 in
theorem b_M_word_20 {ω : q_W} {σ : q_H} {Q : q_R → q_H → Prop} {d mc ms : Nat} {x1 : Int64} {y0 : Int64} {y1 : Int64} {s : Nat} (hs : s = 110 ∨ s = 116) (rs0 : q_r σ 94 32 = s) (rs1 : q_r σ 94 33 = (s + 1)) (rs2 : q_r σ 94 34 = (s + 2)) (rs3 : q_r σ 94 35 = (s + 3)) (rs4 : q_r σ 94 36 = (s + 4)) (rs5 : q_r σ 94 37 = (s + 5)) (hE : q_E σ) (h : q_imp (y1 ≠ y0) ((J ω m_M_spelled d 0 0 0 0 0 [(0, .ref 1000019)] [] σ (q_kl (fun v τ => J ω m_M_word (d + 1) mc ms 0 0 34 [(1, .long x1)] [.long v, .long x1] τ Q)))) ∧ q_imp (y1 = y0) ((Q (.inl (some (.int (zI 257)))) σ))) : J ω m_M_word (d + 1) mc ms 0 0 20 [(1, .long x1)] [.long y0, .long y1] σ Q := by
  obtain ⟨h1, h2⟩ := h
  refine zj_lcmp_ne 28 d_M_word_20 d_M_word_21 (by decide) (fun k2 => ?_) (fun k2 => ?_)
  · have h := h1 k2
    refine j_lload_n d_M_word_28 0 rfl ?_
    refine j_ldcS 9 rfl d_M_word_29 ?_
    refine j_callS m_M_spelled [.ref 1000019] [.long x1] d 0 0 cS_M_170 d_M_word_31 rfl rfl (Nat.le_of_ble_eq_true rfl) (Nat.le_refl _) (Nat.le_of_ble_eq_true rfl) (Nat.zero_le _) (Nat.zero_le _) h (fun v τ h => ?_) (fun x τ h => ?_)
    · obtain ⟨v, e1, h⟩ := h; cases e1; exact j_sel [0] rfl h
    · obtain ⟨v, e1, h⟩ := h; cases e1
  · have h := h2 k2
    refine j_sipush (v := zI 257) d_M_word_24 (by decide) ?_
    exact zj_iret d_M_word_27 rfl (Nat.zero_le _) (Nat.zero_le _) h
set_option maxHeartbeats 2000000 in
theorem b_M_word_34 {ω : q_W} {σ : q_H} {Q : q_R → q_H → Prop} {d mc ms : Nat} {x1 : Int64} {y0 : Int64} {y1 : Int64} {s : Nat} (hs : s = 110 ∨ s = 116) (rs0 : q_r σ 94 32 = s) (rs1 : q_r σ 94 33 = (s + 1)) (rs2 : q_r σ 94 34 = (s + 2)) (rs3 : q_r σ 94 35 = (s + 3)) (rs4 : q_r σ 94 36 = (s + 4)) (rs5 : q_r σ 94 37 = (s + 5)) (hE : q_E σ) (h : q_imp (y1 ≠ y0) ((J ω m_M_spelled d 0 0 0 0 0 [(0, .ref 1000020)] [] σ (q_kl (fun v τ => J ω m_M_word (d + 1) mc ms 0 0 48 [(1, .long x1)] [.long v, .long x1] τ Q)))) ∧ q_imp (y1 = y0) ((Q (.inl (some (.int (zI 258)))) σ))) : J ω m_M_word (d + 1) mc ms 0 0 34 [(1, .long x1)] [.long y0, .long y1] σ Q := by
  obtain ⟨h1, h2⟩ := h
  refine zj_lcmp_ne 42 d_M_word_34 d_M_word_35 (by decide) (fun k3 => ?_) (fun k3 => ?_)
  · have h := h1 k3
    refine j_lload_n d_M_word_42 0 rfl ?_
    refine j_ldcS 10 rfl d_M_word_43 ?_
    refine j_callS m_M_spelled [.ref 1000020] [.long x1] d 0 0 cS_M_170 d_M_word_45 rfl rfl (Nat.le_of_ble_eq_true rfl) (Nat.le_refl _) (Nat.le_of_ble_eq_true rfl) (Nat.zero_le _) (Nat.zero_le _) h (fun v τ h => ?_) (fun x τ h => ?_)
    · obtain ⟨v, e1, h⟩ := h; cases e1; exact j_sel [0] rfl h
    · obtain ⟨v, e1, h⟩ := h; cases e1
  · have h := h2 k3
    refine j_sipush (v := zI 258) d_M_word_38 (by decide) ?_
    exact zj_iret d_M_word_41 rfl (Nat.zero_le _) (Nat.zero_le _) h
set_option maxHeartbeats 2000000 in
theorem b_M_word_48 {ω : q_W} {σ : q_H} {Q : q_R → q_H → Prop} {d mc ms : Nat} {x1 : Int64} {y0 : Int64} {y1 : Int64} {s : Nat} (hs : s = 110 ∨ s = 116) (rs0 : q_r σ 94 32 = s) (rs1 : q_r σ 94 33 = (s + 1)) (rs2 : q_r σ 94 34 = (s + 2)) (rs3 : q_r σ 94 35 = (s + 3)) (rs4 : q_r σ 94 36 = (s + 4)) (rs5 : q_r σ 94 37 = (s + 5)) (hE : q_E σ) (h : q_imp (y1 ≠ y0) ((J ω m_M_spelled d 0 0 0 0 0 [(0, .ref 1000021)] [] σ (q_kl (fun v τ => J ω m_M_word (d + 1) mc ms 0 0 62 [(1, .long x1)] [.long v, .long x1] τ Q)))) ∧ q_imp (y1 = y0) ((Q (.inl (some (.int (zI 259)))) σ))) : J ω m_M_word (d + 1) mc ms 0 0 48 [(1, .long x1)] [.long y0, .long y1] σ Q := by
  obtain ⟨h1, h2⟩ := h
  refine zj_lcmp_ne 56 d_M_word_48 d_M_word_49 (by decide) (fun k4 => ?_) (fun k4 => ?_)
  · have h := h1 k4
    refine j_lload_n d_M_word_56 0 rfl ?_
    refine j_ldcS 11 rfl d_M_word_57 ?_
    refine j_callS m_M_spelled [.ref 1000021] [.long x1] d 0 0 cS_M_170 d_M_word_59 rfl rfl (Nat.le_of_ble_eq_true rfl) (Nat.le_refl _) (Nat.le_of_ble_eq_true rfl) (Nat.zero_le _) (Nat.zero_le _) h (fun v τ h => ?_) (fun x τ h => ?_)
    · obtain ⟨v, e1, h⟩ := h; cases e1; exact j_sel [0] rfl h
    · obtain ⟨v, e1, h⟩ := h; cases e1
  · have h := h2 k4
    refine j_sipush (v := zI 259) d_M_word_52 (by decide) ?_
    exact zj_iret d_M_word_55 rfl (Nat.zero_le _) (Nat.zero_le _) h
set_option maxHeartbeats 2000000 in
theorem b_M_word_62 {ω : q_W} {σ : q_H} {Q : q_R → q_H → Prop} {d mc ms : Nat} {x1 : Int64} {y0 : Int64} {y1 : Int64} {s : Nat} (hs : s = 110 ∨ s = 116) (rs0 : q_r σ 94 32 = s) (rs1 : q_r σ 94 33 = (s + 1)) (rs2 : q_r σ 94 34 = (s + 2)) (rs3 : q_r σ 94 35 = (s + 3)) (rs4 : q_r σ 94 36 = (s + 4)) (rs5 : q_r σ 94 37 = (s + 5)) (hE : q_E σ) (h : q_imp (y1 ≠ y0) ((J ω m_M_spelled d 0 0 0 0 0 [(0, .ref 1000022)] [] σ (q_kl (fun v τ => J ω m_M_word (d + 1) mc ms 0 0 76 [(1, .long x1)] [.long v, .long x1] τ Q)))) ∧ q_imp (y1 = y0) ((Q (.inl (some (.int (zI 260)))) σ))) : J ω m_M_word (d + 1) mc ms 0 0 62 [(1, .long x1)] [.long y0, .long y1] σ Q := by
  obtain ⟨h1, h2⟩ := h
  refine zj_lcmp_ne 70 d_M_word_62 d_M_word_63 (by decide) (fun k5 => ?_) (fun k5 => ?_)
  · have h := h1 k5
    refine j_lload_n d_M_word_70 0 rfl ?_
    refine j_ldcS 12 rfl d_M_word_71 ?_
    refine j_callS m_M_spelled [.ref 1000022] [.long x1] d 0 0 cS_M_170 d_M_word_73 rfl rfl (Nat.le_of_ble_eq_true rfl) (Nat.le_refl _) (Nat.le_of_ble_eq_true rfl) (Nat.zero_le _) (Nat.zero_le _) h (fun v τ h => ?_) (fun x τ h => ?_)
    · obtain ⟨v, e1, h⟩ := h; cases e1; exact j_sel [0] rfl h
    · obtain ⟨v, e1, h⟩ := h; cases e1
  · have h := h2 k5
    refine j_sipush (v := zI 260) d_M_word_66 (by decide) ?_
    exact zj_iret d_M_word_69 rfl (Nat.zero_le _) (Nat.zero_le _) h
set_option maxHeartbeats 2000000 in
theorem b_M_word_76 {ω : q_W} {σ : q_H} {Q : q_R → q_H → Prop} {d mc ms : Nat} {x1 : Int64} {y0 : Int64} {y1 : Int64} {s : Nat} (hs : s = 110 ∨ s = 116) (rs0 : q_r σ 94 32 = s) (rs1 : q_r σ 94 33 = (s + 1)) (rs2 : q_r σ 94 34 = (s + 2)) (rs3 : q_r σ 94 35 = (s + 3)) (rs4 : q_r σ 94 36 = (s + 4)) (rs5 : q_r σ 94 37 = (s + 5)) (hE : q_E σ) (h : q_imp (y1 ≠ y0) ((J ω m_M_spelled d 0 0 0 0 0 [(0, .ref 1000023)] [] σ (q_kl (fun v τ => J ω m_M_word (d + 1) mc ms 0 0 90 [] [.long v, .long x1] τ Q)))) ∧ q_imp (y1 = y0) ((Q (.inl (some (.int (zI 261)))) σ))) : J ω m_M_word (d + 1) mc ms 0 0 76 [(1, .long x1)] [.long y0, .long y1] σ Q := by
  obtain ⟨h1, h2⟩ := h
  refine zj_lcmp_ne 84 d_M_word_76 d_M_word_77 (by decide) (fun k6 => ?_) (fun k6 => ?_)
  · have h := h1 k6
    refine j_lload_n d_M_word_84 0 rfl ?_
    refine j_ldcS 13 rfl d_M_word_85 ?_
    refine j_callS m_M_spelled [.ref 1000023] [.long x1] d 0 0 cS_M_170 d_M_word_87 rfl rfl (Nat.le_of_ble_eq_true rfl) (Nat.le_refl _) (Nat.le_of_ble_eq_true rfl) (Nat.zero_le _) (Nat.zero_le _) h (fun v τ h => ?_) (fun x τ h => ?_)
    · obtain ⟨v, e1, h⟩ := h; cases e1; exact j_sel [] rfl h
    · obtain ⟨v, e1, h⟩ := h; cases e1
  · have h := h2 k6
    refine j_sipush (v := zI 261) d_M_word_80 (by decide) ?_
    exact zj_iret d_M_word_83 rfl (Nat.zero_le _) (Nat.zero_le _) h
set_option maxHeartbeats 2000000 in
theorem b_M_word_90 {ω : q_W} {σ : q_H} {Q : q_R → q_H → Prop} {d mc ms : Nat} {y0 : Int64} {y1 : Int64} {s : Nat} (hs : s = 110 ∨ s = 116) (rs0 : q_r σ 94 32 = s) (rs1 : q_r σ 94 33 = (s + 1)) (rs2 : q_r σ 94 34 = (s + 2)) (rs3 : q_r σ 94 35 = (s + 3)) (rs4 : q_r σ 94 36 = (s + 4)) (rs5 : q_r σ 94 37 = (s + 5)) (hE : q_E σ) (h : q_imp (y1 ≠ y0) ((Q (.inl (some (.int (zI 263)))) σ)) ∧ q_imp (y1 = y0) ((Q (.inl (some (.int (zI 262)))) σ))) : J ω m_M_word (d + 1) mc ms 0 0 90 [] [.long y0, .long y1] σ Q := by
  obtain ⟨h1, h2⟩ := h
  refine zj_lcmp_ne 98 d_M_word_90 d_M_word_91 (by decide) (fun k7 => ?_) (fun k7 => ?_)
  · have h := h1 k7
    refine j_sipush (v := zI 263) d_M_word_98 (by decide) ?_
    exact zj_iret d_M_word_101 rfl (Nat.zero_le _) (Nat.zero_le _) h
  · have h := h2 k7
    refine j_sipush (v := zI 262) d_M_word_94 (by decide) ?_
    exact zj_iret d_M_word_97 rfl (Nat.zero_le _) (Nat.zero_le _) h
set_option maxHeartbeats 2000000 in
theorem b_M_pair_0 {ω : q_W} {σ : q_H} {Q : q_R → q_H → Prop} {d mc ms : Nat} {x0 : Int} {x1 : Int}  (hE : q_E σ) (h : inR x0 ∧ q_imp (x0 ≠ 61) ((J ω m_M_pair d mc ms 0 0 16 [(0, .int (zI x0)), (1, .int (zI x1))] [] σ Q)) ∧ q_imp (x0 = 61) (inR x1 ∧ q_imp (x1 ≠ 61) ((J ω m_M_pair d mc ms 0 0 16 [(0, .int (zI x0)), (1, .int (zI x1))] [] σ Q)) ∧ q_imp (x1 = 61) ((Q (.inl (some (.int (zI 265)))) σ)))) : J ω m_M_pair d mc ms 0 0 0 [(0, .int (zI x0)), (1, .int (zI x1))] [] σ Q := by
  refine j_iload_n d_M_pair_0 0 rfl ?_
  refine j_bipush (v := zI 61) d_M_pair_1 (by decide) ?_
  obtain ⟨r1, h⟩ := h
  obtain ⟨h1, h2⟩ := h
  refine zj_icmp_ne 16 d_M_pair_3 (by decide) r1 ⟨by decide, by decide⟩ (fun k2 => ?_) (fun k2 => ?_)
  · have h := h1 k2
    exact j_sel [0, 1] rfl h
  · have h := h2 k2
    refine j_iload_n d_M_pair_6 1 rfl ?_
    refine j_bipush (v := zI 61) d_M_pair_7 (by decide) ?_
    obtain ⟨r3, h⟩ := h
    obtain ⟨h1, h2⟩ := h
    refine zj_icmp_ne 16 d_M_pair_9 (by decide) r3 ⟨by decide, by decide⟩ (fun k4 => ?_) (fun k4 => ?_)
    · have h := h1 k4
      exact j_sel [0, 1] rfl h
    · have h := h2 k4
      refine j_sipush (v := zI 265) d_M_pair_12 (by decide) ?_
      exact zj_iret d_M_pair_15 rfl (Nat.zero_le _) (Nat.zero_le _) h
set_option maxHeartbeats 2000000 in
theorem b_M_pair_16 {ω : q_W} {σ : q_H} {Q : q_R → q_H → Prop} {d mc ms : Nat} {x0 : Int} {x1 : Int}  (hE : q_E σ) (h : inR x0 ∧ q_imp (x0 ≠ 33) ((J ω m_M_pair d mc ms 0 0 32 [(0, .int (zI x0)), (1, .int (zI x1))] [] σ Q)) ∧ q_imp (x0 = 33) (inR x1 ∧ q_imp (x1 ≠ 61) ((J ω m_M_pair d mc ms 0 0 32 [(0, .int (zI x0)), (1, .int (zI x1))] [] σ Q)) ∧ q_imp (x1 = 61) ((Q (.inl (some (.int (zI 266)))) σ)))) : J ω m_M_pair d mc ms 0 0 16 [(0, .int (zI x0)), (1, .int (zI x1))] [] σ Q := by
  refine j_iload_n d_M_pair_16 0 rfl ?_
  refine j_bipush (v := zI 33) d_M_pair_17 (by decide) ?_
  obtain ⟨r5, h⟩ := h
  obtain ⟨h1, h2⟩ := h
  refine zj_icmp_ne 32 d_M_pair_19 (by decide) r5 ⟨by decide, by decide⟩ (fun k6 => ?_) (fun k6 => ?_)
  · have h := h1 k6
    exact j_sel [0, 1] rfl h
  · have h := h2 k6
    refine j_iload_n d_M_pair_22 1 rfl ?_
    refine j_bipush (v := zI 61) d_M_pair_23 (by decide) ?_
    obtain ⟨r7, h⟩ := h
    obtain ⟨h1, h2⟩ := h
    refine zj_icmp_ne 32 d_M_pair_25 (by decide) r7 ⟨by decide, by decide⟩ (fun k8 => ?_) (fun k8 => ?_)
    · have h := h1 k8
      exact j_sel [0, 1] rfl h
    · have h := h2 k8
      refine j_sipush (v := zI 266) d_M_pair_28 (by decide) ?_
      exact zj_iret d_M_pair_31 rfl (Nat.zero_le _) (Nat.zero_le _) h
set_option maxHeartbeats 2000000 in
theorem b_M_pair_32 {ω : q_W} {σ : q_H} {Q : q_R → q_H → Prop} {d mc ms : Nat} {x0 : Int} {x1 : Int}  (hE : q_E σ) (h : inR x0 ∧ q_imp (x0 ≠ 60) ((J ω m_M_pair d mc ms 0 0 48 [(0, .int (zI x0)), (1, .int (zI x1))] [] σ Q)) ∧ q_imp (x0 = 60) (inR x1 ∧ q_imp (x1 ≠ 61) ((J ω m_M_pair d mc ms 0 0 48 [(0, .int (zI x0)), (1, .int (zI x1))] [] σ Q)) ∧ q_imp (x1 = 61) ((Q (.inl (some (.int (zI 267)))) σ)))) : J ω m_M_pair d mc ms 0 0 32 [(0, .int (zI x0)), (1, .int (zI x1))] [] σ Q := by
  refine j_iload_n d_M_pair_32 0 rfl ?_
  refine j_bipush (v := zI 60) d_M_pair_33 (by decide) ?_
  obtain ⟨r9, h⟩ := h
  obtain ⟨h1, h2⟩ := h
  refine zj_icmp_ne 48 d_M_pair_35 (by decide) r9 ⟨by decide, by decide⟩ (fun k10 => ?_) (fun k10 => ?_)
  · have h := h1 k10
    exact j_sel [0, 1] rfl h
  · have h := h2 k10
    refine j_iload_n d_M_pair_38 1 rfl ?_
    refine j_bipush (v := zI 61) d_M_pair_39 (by decide) ?_
    obtain ⟨r11, h⟩ := h
    obtain ⟨h1, h2⟩ := h
    refine zj_icmp_ne 48 d_M_pair_41 (by decide) r11 ⟨by decide, by decide⟩ (fun k12 => ?_) (fun k12 => ?_)
    · have h := h1 k12
      exact j_sel [0, 1] rfl h
    · have h := h2 k12
      refine j_sipush (v := zI 267) d_M_pair_44 (by decide) ?_
      exact zj_iret d_M_pair_47 rfl (Nat.zero_le _) (Nat.zero_le _) h
set_option maxHeartbeats 2000000 in
theorem b_M_pair_48 {ω : q_W} {σ : q_H} {Q : q_R → q_H → Prop} {d mc ms : Nat} {x0 : Int} {x1 : Int}  (hE : q_E σ) (h : inR x0 ∧ q_imp (x0 ≠ 62) ((J ω m_M_pair d mc ms 0 0 64 [(0, .int (zI x0)), (1, .int (zI x1))] [] σ Q)) ∧ q_imp (x0 = 62) (inR x1 ∧ q_imp (x1 ≠ 61) ((J ω m_M_pair d mc ms 0 0 64 [(0, .int (zI x0)), (1, .int (zI x1))] [] σ Q)) ∧ q_imp (x1 = 61) ((Q (.inl (some (.int (zI 268)))) σ)))) : J ω m_M_pair d mc ms 0 0 48 [(0, .int (zI x0)), (1, .int (zI x1))] [] σ Q := by
  refine j_iload_n d_M_pair_48 0 rfl ?_
  refine j_bipush (v := zI 62) d_M_pair_49 (by decide) ?_
  obtain ⟨r13, h⟩ := h
  obtain ⟨h1, h2⟩ := h
  refine zj_icmp_ne 64 d_M_pair_51 (by decide) r13 ⟨by decide, by decide⟩ (fun k14 => ?_) (fun k14 => ?_)
  · have h := h1 k14
    exact j_sel [0, 1] rfl h
  · have h := h2 k14
    refine j_iload_n d_M_pair_54 1 rfl ?_
    refine j_bipush (v := zI 61) d_M_pair_55 (by decide) ?_
    obtain ⟨r15, h⟩ := h
    obtain ⟨h1, h2⟩ := h
    refine zj_icmp_ne 64 d_M_pair_57 (by decide) r15 ⟨by decide, by decide⟩ (fun k16 => ?_) (fun k16 => ?_)
    · have h := h1 k16
      exact j_sel [0, 1] rfl h
    · have h := h2 k16
      refine j_sipush (v := zI 268) d_M_pair_60 (by decide) ?_
      exact zj_iret d_M_pair_63 rfl (Nat.zero_le _) (Nat.zero_le _) h
set_option maxHeartbeats 2000000 in
theorem b_M_pair_64 {ω : q_W} {σ : q_H} {Q : q_R → q_H → Prop} {d mc ms : Nat} {x0 : Int} {x1 : Int}  (hE : q_E σ) (h : inR x0 ∧ q_imp (x0 ≠ 60) ((J ω m_M_pair d mc ms 0 0 80 [(0, .int (zI x0)), (1, .int (zI x1))] [] σ Q)) ∧ q_imp (x0 = 60) (inR x1 ∧ q_imp (x1 ≠ 60) ((J ω m_M_pair d mc ms 0 0 80 [(0, .int (zI x0)), (1, .int (zI x1))] [] σ Q)) ∧ q_imp (x1 = 60) ((Q (.inl (some (.int (zI 269)))) σ)))) : J ω m_M_pair d mc ms 0 0 64 [(0, .int (zI x0)), (1, .int (zI x1))] [] σ Q := by
  refine j_iload_n d_M_pair_64 0 rfl ?_
  refine j_bipush (v := zI 60) d_M_pair_65 (by decide) ?_
  obtain ⟨r17, h⟩ := h
  obtain ⟨h1, h2⟩ := h
  refine zj_icmp_ne 80 d_M_pair_67 (by decide) r17 ⟨by decide, by decide⟩ (fun k18 => ?_) (fun k18 => ?_)
  · have h := h1 k18
    exact j_sel [0, 1] rfl h
  · have h := h2 k18
    refine j_iload_n d_M_pair_70 1 rfl ?_
    refine j_bipush (v := zI 60) d_M_pair_71 (by decide) ?_
    obtain ⟨r19, h⟩ := h
    obtain ⟨h1, h2⟩ := h
    refine zj_icmp_ne 80 d_M_pair_73 (by decide) r19 ⟨by decide, by decide⟩ (fun k20 => ?_) (fun k20 => ?_)
    · have h := h1 k20
      exact j_sel [0, 1] rfl h
    · have h := h2 k20
      refine j_sipush (v := zI 269) d_M_pair_76 (by decide) ?_
      exact zj_iret d_M_pair_79 rfl (Nat.zero_le _) (Nat.zero_le _) h
set_option maxHeartbeats 2000000 in
theorem b_M_pair_80 {ω : q_W} {σ : q_H} {Q : q_R → q_H → Prop} {d mc ms : Nat} {x0 : Int} {x1 : Int}  (hE : q_E σ) (h : inR x0 ∧ q_imp (x0 ≠ 62) ((J ω m_M_pair d mc ms 0 0 96 [(0, .int (zI x0)), (1, .int (zI x1))] [] σ Q)) ∧ q_imp (x0 = 62) (inR x1 ∧ q_imp (x1 ≠ 62) ((J ω m_M_pair d mc ms 0 0 96 [(0, .int (zI x0)), (1, .int (zI x1))] [] σ Q)) ∧ q_imp (x1 = 62) ((Q (.inl (some (.int (zI 270)))) σ)))) : J ω m_M_pair d mc ms 0 0 80 [(0, .int (zI x0)), (1, .int (zI x1))] [] σ Q := by
  refine j_iload_n d_M_pair_80 0 rfl ?_
  refine j_bipush (v := zI 62) d_M_pair_81 (by decide) ?_
  obtain ⟨r21, h⟩ := h
  obtain ⟨h1, h2⟩ := h
  refine zj_icmp_ne 96 d_M_pair_83 (by decide) r21 ⟨by decide, by decide⟩ (fun k22 => ?_) (fun k22 => ?_)
  · have h := h1 k22
    exact j_sel [0, 1] rfl h
  · have h := h2 k22
    refine j_iload_n d_M_pair_86 1 rfl ?_
    refine j_bipush (v := zI 62) d_M_pair_87 (by decide) ?_
    obtain ⟨r23, h⟩ := h
    obtain ⟨h1, h2⟩ := h
    refine zj_icmp_ne 96 d_M_pair_89 (by decide) r23 ⟨by decide, by decide⟩ (fun k24 => ?_) (fun k24 => ?_)
    · have h := h1 k24
      exact j_sel [0, 1] rfl h
    · have h := h2 k24
      refine j_sipush (v := zI 270) d_M_pair_92 (by decide) ?_
      exact zj_iret d_M_pair_95 rfl (Nat.zero_le _) (Nat.zero_le _) h
set_option maxHeartbeats 2000000 in
theorem b_M_pair_96 {ω : q_W} {σ : q_H} {Q : q_R → q_H → Prop} {d mc ms : Nat} {x0 : Int} {x1 : Int}  (hE : q_E σ) (h : inR x0 ∧ q_imp (x0 ≠ 38) ((J ω m_M_pair d mc ms 0 0 112 [(0, .int (zI x0)), (1, .int (zI x1))] [] σ Q)) ∧ q_imp (x0 = 38) (inR x1 ∧ q_imp (x1 ≠ 38) ((J ω m_M_pair d mc ms 0 0 112 [(0, .int (zI x0)), (1, .int (zI x1))] [] σ Q)) ∧ q_imp (x1 = 38) ((Q (.inl (some (.int (zI 271)))) σ)))) : J ω m_M_pair d mc ms 0 0 96 [(0, .int (zI x0)), (1, .int (zI x1))] [] σ Q := by
  refine j_iload_n d_M_pair_96 0 rfl ?_
  refine j_bipush (v := zI 38) d_M_pair_97 (by decide) ?_
  obtain ⟨r25, h⟩ := h
  obtain ⟨h1, h2⟩ := h
  refine zj_icmp_ne 112 d_M_pair_99 (by decide) r25 ⟨by decide, by decide⟩ (fun k26 => ?_) (fun k26 => ?_)
  · have h := h1 k26
    exact j_sel [0, 1] rfl h
  · have h := h2 k26
    refine j_iload_n d_M_pair_102 1 rfl ?_
    refine j_bipush (v := zI 38) d_M_pair_103 (by decide) ?_
    obtain ⟨r27, h⟩ := h
    obtain ⟨h1, h2⟩ := h
    refine zj_icmp_ne 112 d_M_pair_105 (by decide) r27 ⟨by decide, by decide⟩ (fun k28 => ?_) (fun k28 => ?_)
    · have h := h1 k28
      exact j_sel [0, 1] rfl h
    · have h := h2 k28
      refine j_sipush (v := zI 271) d_M_pair_108 (by decide) ?_
      exact zj_iret d_M_pair_111 rfl (Nat.zero_le _) (Nat.zero_le _) h
set_option maxHeartbeats 2000000 in
theorem b_M_pair_112 {ω : q_W} {σ : q_H} {Q : q_R → q_H → Prop} {d mc ms : Nat} {x0 : Int} {x1 : Int}  (hE : q_E σ) (h : inR x0 ∧ q_imp (x0 ≠ 124) ((Q (.inl (some (.int (zI 0)))) σ)) ∧ q_imp (x0 = 124) (inR x1 ∧ q_imp (x1 ≠ 124) ((Q (.inl (some (.int (zI 0)))) σ)) ∧ q_imp (x1 = 124) ((Q (.inl (some (.int (zI 272)))) σ)))) : J ω m_M_pair d mc ms 0 0 112 [(0, .int (zI x0)), (1, .int (zI x1))] [] σ Q := by
  refine j_iload_n d_M_pair_112 0 rfl ?_
  refine j_bipush (v := zI 124) d_M_pair_113 (by decide) ?_
  obtain ⟨r29, h⟩ := h
  obtain ⟨h1, h2⟩ := h
  refine zj_icmp_ne 130 d_M_pair_115 (by decide) r29 ⟨by decide, by decide⟩ (fun k30 => ?_) (fun k30 => ?_)
  · have h := h1 k30
    refine j_iconst (v := zI 0) d_M_pair_130 (by decide) ?_
    exact zj_iret d_M_pair_131 rfl (Nat.zero_le _) (Nat.zero_le _) h
  · have h := h2 k30
    refine j_iload_n d_M_pair_118 1 rfl ?_
    refine j_bipush (v := zI 124) d_M_pair_119 (by decide) ?_
    obtain ⟨r31, h⟩ := h
    obtain ⟨h1, h2⟩ := h
    refine zj_icmp_ne 130 d_M_pair_121 (by decide) r31 ⟨by decide, by decide⟩ (fun k32 => ?_) (fun k32 => ?_)
    · have h := h1 k32
      refine j_iconst (v := zI 0) d_M_pair_130 (by decide) ?_
      exact zj_iret d_M_pair_131 rfl (Nat.zero_le _) (Nat.zero_le _) h
    · have h := h2 k32
      refine j_sipush (v := zI 272) d_M_pair_124 (by decide) ?_
      refine j_goto 131 d_M_pair_127 (by decide) ?_
      exact zj_iret d_M_pair_131 rfl (Nat.zero_le _) (Nat.zero_le _) h
set_option maxHeartbeats 2000000 in
theorem b_M_swap_0 {ω : q_W} {σ : q_H} {Q : q_R → q_H → Prop} {d mc ms : Nat}  {s : Nat} (hs : s = 110 ∨ s = 116) (rs0 : q_r σ 94 32 = s) (rs1 : q_r σ 94 33 = (s + 1)) (rs2 : q_r σ 94 34 = (s + 2)) (rs3 : q_r σ 94 35 = (s + 3)) (rs4 : q_r σ 94 36 = (s + 4)) (rs5 : q_r σ 94 37 = (s + 5)) {u : Nat} (hu : u = 110 ∨ u = 116) (ru0 : q_r σ 94 38 = u) (ru1 : q_r σ 94 39 = (u + 1)) (ru2 : q_r σ 94 40 = (u + 2)) (ru3 : q_r σ 94 41 = (u + 3)) (ru4 : q_r σ 94 42 = (u + 4)) (ru5 : q_r σ 94 43 = (u + 5)) (hE : q_E σ) (h : (Q (.inl none) (zr (zr (zr (zr (zr (zr (zr (zr (zr (zr (zr (zr σ 94 32 u) 94 38 s) 94 33 (u + 1)) 94 39 (s + 1)) 94 34 (u + 2)) 94 40 (s + 2)) 94 35 (u + 3)) 94 41 (s + 3)) 94 36 (u + 4)) 94 42 (s + 4)) 94 37 (u + 5)) 94 43 (s + 5)))) : J ω m_M_swap d mc ms 0 0 0 [(0, .ref 94)] [] σ Q := by
  refine j_aload_n d_M_swap_0 0 rfl ?_
  refine j_getR s f_M_61 d_M_swap_1 (tg_94 hE) (q_okE hE (by decide)) (rs0) (by omega) ?_
  refine j_astore_n (L' := [(1, .ref s), (0, .ref 94)]) d_M_swap_4 (by decide) rfl ?_
  refine j_aload_n d_M_swap_5 1 rfl ?_
  refine j_aload_n d_M_swap_6 1 rfl ?_
  refine j_getR u f_M_79 d_M_swap_7 (tg_94 hE) (q_okE hE (by decide)) (ru0) (by omega) ?_
  refine zj_putR (g_M_61 _) d_M_swap_10 (tg_94 hE) (q_okE hE (by decide)) (by omega) ?_
  refine j_aload_n d_M_swap_13 1 rfl ?_
  refine j_aload_n d_M_swap_14 0 rfl ?_
  refine zj_putR (g_M_79 _) d_M_swap_15 (tg_94 (zr_E hE (by decide))) (q_okE (zr_E hE (by decide)) (by decide)) (by omega) ?_
  refine j_aload_n d_M_swap_18 1 rfl ?_
  refine j_getR (s + 1) f_M_64 d_M_swap_19 (tg_94 (zr_E (zr_E hE (by decide)) (by decide))) (q_okE (zr_E (zr_E hE (by decide)) (by decide)) (by decide)) (Eq.trans (zr_k (by decide)) (Eq.trans (zr_k (by decide)) (rs1))) (by omega) ?_
  refine j_astore_n (L' := [(1, .ref (s + 1)), (0, .ref 94)]) d_M_swap_22 (by decide) rfl ?_
  refine j_aload_n d_M_swap_23 1 rfl ?_
  refine j_aload_n d_M_swap_24 1 rfl ?_
  refine j_getR (u + 1) f_M_82 d_M_swap_25 (tg_94 (zr_E (zr_E hE (by decide)) (by decide))) (q_okE (zr_E (zr_E hE (by decide)) (by decide)) (by decide)) (Eq.trans (zr_k (by decide)) (Eq.trans (zr_k (by decide)) (ru1))) (by omega) ?_
  refine zj_putR (g_M_64 _) d_M_swap_28 (tg_94 (zr_E (zr_E hE (by decide)) (by decide))) (q_okE (zr_E (zr_E hE (by decide)) (by decide)) (by decide)) (by omega) ?_
  refine j_aload_n d_M_swap_31 1 rfl ?_
  refine j_aload_n d_M_swap_32 0 rfl ?_
  refine zj_putR (g_M_82 _) d_M_swap_33 (tg_94 (zr_E (zr_E (zr_E hE (by decide)) (by decide)) (by decide))) (q_okE (zr_E (zr_E (zr_E hE (by decide)) (by decide)) (by decide)) (by decide)) (by omega) ?_
  refine j_aload_n d_M_swap_36 1 rfl ?_
  refine j_getR (s + 2) f_M_67 d_M_swap_37 (tg_94 (zr_E (zr_E (zr_E (zr_E hE (by decide)) (by decide)) (by decide)) (by decide))) (q_okE (zr_E (zr_E (zr_E (zr_E hE (by decide)) (by decide)) (by decide)) (by decide)) (by decide)) (Eq.trans (zr_k (by decide)) (Eq.trans (zr_k (by decide)) (Eq.trans (zr_k (by decide)) (Eq.trans (zr_k (by decide)) (rs2))))) (by omega) ?_
  refine j_astore_n (L' := [(1, .ref (s + 2)), (0, .ref 94)]) d_M_swap_40 (by decide) rfl ?_
  refine j_aload_n d_M_swap_41 1 rfl ?_
  refine j_aload_n d_M_swap_42 1 rfl ?_
  refine j_getR (u + 2) f_M_85 d_M_swap_43 (tg_94 (zr_E (zr_E (zr_E (zr_E hE (by decide)) (by decide)) (by decide)) (by decide))) (q_okE (zr_E (zr_E (zr_E (zr_E hE (by decide)) (by decide)) (by decide)) (by decide)) (by decide)) (Eq.trans (zr_k (by decide)) (Eq.trans (zr_k (by decide)) (Eq.trans (zr_k (by decide)) (Eq.trans (zr_k (by decide)) (ru2))))) (by omega) ?_
  refine zj_putR (g_M_67 _) d_M_swap_46 (tg_94 (zr_E (zr_E (zr_E (zr_E hE (by decide)) (by decide)) (by decide)) (by decide))) (q_okE (zr_E (zr_E (zr_E (zr_E hE (by decide)) (by decide)) (by decide)) (by decide)) (by decide)) (by omega) ?_
  refine j_aload_n d_M_swap_49 1 rfl ?_
  refine j_aload_n d_M_swap_50 0 rfl ?_
  refine zj_putR (g_M_85 _) d_M_swap_51 (tg_94 (zr_E (zr_E (zr_E (zr_E (zr_E hE (by decide)) (by decide)) (by decide)) (by decide)) (by decide))) (q_okE (zr_E (zr_E (zr_E (zr_E (zr_E hE (by decide)) (by decide)) (by decide)) (by decide)) (by decide)) (by decide)) (by omega) ?_
  refine j_aload_n d_M_swap_54 1 rfl ?_
  refine j_getR (s + 3) f_M_70 d_M_swap_55 (tg_94 (zr_E (zr_E (zr_E (zr_E (zr_E (zr_E hE (by decide)) (by decide)) (by decide)) (by decide)) (by decide)) (by decide))) (q_okE (zr_E (zr_E (zr_E (zr_E (zr_E (zr_E hE (by decide)) (by decide)) (by decide)) (by decide)) (by decide)) (by decide)) (by decide)) (Eq.trans (zr_k (by decide)) (Eq.trans (zr_k (by decide)) (Eq.trans (zr_k (by decide)) (Eq.trans (zr_k (by decide)) (Eq.trans (zr_k (by decide)) (Eq.trans (zr_k (by decide)) (rs3))))))) (by omega) ?_
  refine j_astore_n (L' := [(1, .ref (s + 3)), (0, .ref 94)]) d_M_swap_58 (by decide) rfl ?_
  refine j_aload_n d_M_swap_59 1 rfl ?_
  refine j_aload_n d_M_swap_60 1 rfl ?_
  refine j_getR (u + 3) f_M_88 d_M_swap_61 (tg_94 (zr_E (zr_E (zr_E (zr_E (zr_E (zr_E hE (by decide)) (by decide)) (by decide)) (by decide)) (by decide)) (by decide))) (q_okE (zr_E (zr_E (zr_E (zr_E (zr_E (zr_E hE (by decide)) (by decide)) (by decide)) (by decide)) (by decide)) (by decide)) (by decide)) (Eq.trans (zr_k (by decide)) (Eq.trans (zr_k (by decide)) (Eq.trans (zr_k (by decide)) (Eq.trans (zr_k (by decide)) (Eq.trans (zr_k (by decide)) (Eq.trans (zr_k (by decide)) (ru3))))))) (by omega) ?_
  refine zj_putR (g_M_70 _) d_M_swap_64 (tg_94 (zr_E (zr_E (zr_E (zr_E (zr_E (zr_E hE (by decide)) (by decide)) (by decide)) (by decide)) (by decide)) (by decide))) (q_okE (zr_E (zr_E (zr_E (zr_E (zr_E (zr_E hE (by decide)) (by decide)) (by decide)) (by decide)) (by decide)) (by decide)) (by decide)) (by omega) ?_
  refine j_aload_n d_M_swap_67 1 rfl ?_
  refine j_aload_n d_M_swap_68 0 rfl ?_
  refine zj_putR (g_M_88 _) d_M_swap_69 (tg_94 (zr_E (zr_E (zr_E (zr_E (zr_E (zr_E (zr_E hE (by decide)) (by decide)) (by decide)) (by decide)) (by decide)) (by decide)) (by decide))) (q_okE (zr_E (zr_E (zr_E (zr_E (zr_E (zr_E (zr_E hE (by decide)) (by decide)) (by decide)) (by decide)) (by decide)) (by decide)) (by decide)) (by decide)) (by omega) ?_
  refine j_aload_n d_M_swap_72 1 rfl ?_
  refine j_getR (s + 4) f_M_73 d_M_swap_73 (tg_94 (zr_E (zr_E (zr_E (zr_E (zr_E (zr_E (zr_E (zr_E hE (by decide)) (by decide)) (by decide)) (by decide)) (by decide)) (by decide)) (by decide)) (by decide))) (q_okE (zr_E (zr_E (zr_E (zr_E (zr_E (zr_E (zr_E (zr_E hE (by decide)) (by decide)) (by decide)) (by decide)) (by decide)) (by decide)) (by decide)) (by decide)) (by decide)) (Eq.trans (zr_k (by decide)) (Eq.trans (zr_k (by decide)) (Eq.trans (zr_k (by decide)) (Eq.trans (zr_k (by decide)) (Eq.trans (zr_k (by decide)) (Eq.trans (zr_k (by decide)) (Eq.trans (zr_k (by decide)) (Eq.trans (zr_k (by decide)) (rs4))))))))) (by omega) ?_
  refine j_astore_n (L' := [(1, .ref (s + 4)), (0, .ref 94)]) d_M_swap_76 (by decide) rfl ?_
  refine j_aload_n d_M_swap_77 1 rfl ?_
  refine j_aload_n d_M_swap_78 1 rfl ?_
  refine j_getR (u + 4) f_M_91 d_M_swap_79 (tg_94 (zr_E (zr_E (zr_E (zr_E (zr_E (zr_E (zr_E (zr_E hE (by decide)) (by decide)) (by decide)) (by decide)) (by decide)) (by decide)) (by decide)) (by decide))) (q_okE (zr_E (zr_E (zr_E (zr_E (zr_E (zr_E (zr_E (zr_E hE (by decide)) (by decide)) (by decide)) (by decide)) (by decide)) (by decide)) (by decide)) (by decide)) (by decide)) (Eq.trans (zr_k (by decide)) (Eq.trans (zr_k (by decide)) (Eq.trans (zr_k (by decide)) (Eq.trans (zr_k (by decide)) (Eq.trans (zr_k (by decide)) (Eq.trans (zr_k (by decide)) (Eq.trans (zr_k (by decide)) (Eq.trans (zr_k (by decide)) (ru4))))))))) (by omega) ?_
  refine zj_putR (g_M_73 _) d_M_swap_82 (tg_94 (zr_E (zr_E (zr_E (zr_E (zr_E (zr_E (zr_E (zr_E hE (by decide)) (by decide)) (by decide)) (by decide)) (by decide)) (by decide)) (by decide)) (by decide))) (q_okE (zr_E (zr_E (zr_E (zr_E (zr_E (zr_E (zr_E (zr_E hE (by decide)) (by decide)) (by decide)) (by decide)) (by decide)) (by decide)) (by decide)) (by decide)) (by decide)) (by omega) ?_
  refine j_aload_n d_M_swap_85 1 rfl ?_
  refine j_aload_n d_M_swap_86 0 rfl ?_
  refine zj_putR (g_M_91 _) d_M_swap_87 (tg_94 (zr_E (zr_E (zr_E (zr_E (zr_E (zr_E (zr_E (zr_E (zr_E hE (by decide)) (by decide)) (by decide)) (by decide)) (by decide)) (by decide)) (by decide)) (by decide)) (by decide))) (q_okE (zr_E (zr_E (zr_E (zr_E (zr_E (zr_E (zr_E (zr_E (zr_E hE (by decide)) (by decide)) (by decide)) (by decide)) (by decide)) (by decide)) (by decide)) (by decide)) (by decide)) (by decide)) (by omega) ?_
  refine j_aload_n d_M_swap_90 1 rfl ?_
  refine j_getR (s + 5) f_M_76 d_M_swap_91 (tg_94 (zr_E (zr_E (zr_E (zr_E (zr_E (zr_E (zr_E (zr_E (zr_E (zr_E hE (by decide)) (by decide)) (by decide)) (by decide)) (by decide)) (by decide)) (by decide)) (by decide)) (by decide)) (by decide))) (q_okE (zr_E (zr_E (zr_E (zr_E (zr_E (zr_E (zr_E (zr_E (zr_E (zr_E hE (by decide)) (by decide)) (by decide)) (by decide)) (by decide)) (by decide)) (by decide)) (by decide)) (by decide)) (by decide)) (by decide)) (Eq.trans (zr_k (by decide)) (Eq.trans (zr_k (by decide)) (Eq.trans (zr_k (by decide)) (Eq.trans (zr_k (by decide)) (Eq.trans (zr_k (by decide)) (Eq.trans (zr_k (by decide)) (Eq.trans (zr_k (by decide)) (Eq.trans (zr_k (by decide)) (Eq.trans (zr_k (by decide)) (Eq.trans (zr_k (by decide)) (rs5))))))))))) (by omega) ?_
  refine j_astore_n (L' := [(1, .ref (s + 5)), (0, .ref 94)]) d_M_swap_94 (by decide) rfl ?_
  refine j_aload_n d_M_swap_95 1 rfl ?_
  refine j_aload_n d_M_swap_96 1 rfl ?_
  refine j_getR (u + 5) f_M_94 d_M_swap_97 (tg_94 (zr_E (zr_E (zr_E (zr_E (zr_E (zr_E (zr_E (zr_E (zr_E (zr_E hE (by decide)) (by decide)) (by decide)) (by decide)) (by decide)) (by decide)) (by decide)) (by decide)) (by decide)) (by decide))) (q_okE (zr_E (zr_E (zr_E (zr_E (zr_E (zr_E (zr_E (zr_E (zr_E (zr_E hE (by decide)) (by decide)) (by decide)) (by decide)) (by decide)) (by decide)) (by decide)) (by decide)) (by decide)) (by decide)) (by decide)) (Eq.trans (zr_k (by decide)) (Eq.trans (zr_k (by decide)) (Eq.trans (zr_k (by decide)) (Eq.trans (zr_k (by decide)) (Eq.trans (zr_k (by decide)) (Eq.trans (zr_k (by decide)) (Eq.trans (zr_k (by decide)) (Eq.trans (zr_k (by decide)) (Eq.trans (zr_k (by decide)) (Eq.trans (zr_k (by decide)) (ru5))))))))))) (by omega) ?_
  refine zj_putR (g_M_76 _) d_M_swap_100 (tg_94 (zr_E (zr_E (zr_E (zr_E (zr_E (zr_E (zr_E (zr_E (zr_E (zr_E hE (by decide)) (by decide)) (by decide)) (by decide)) (by decide)) (by decide)) (by decide)) (by decide)) (by decide)) (by decide))) (q_okE (zr_E (zr_E (zr_E (zr_E (zr_E (zr_E (zr_E (zr_E (zr_E (zr_E hE (by decide)) (by decide)) (by decide)) (by decide)) (by decide)) (by decide)) (by decide)) (by decide)) (by decide)) (by decide)) (by decide)) (by omega) ?_
  refine j_aload_n d_M_swap_103 1 rfl ?_
  refine j_aload_n d_M_swap_104 0 rfl ?_
  refine zj_putR (g_M_94 _) d_M_swap_105 (tg_94 (zr_E (zr_E (zr_E (zr_E (zr_E (zr_E (zr_E (zr_E (zr_E (zr_E (zr_E hE (by decide)) (by decide)) (by decide)) (by decide)) (by decide)) (by decide)) (by decide)) (by decide)) (by decide)) (by decide)) (by decide))) (q_okE (zr_E (zr_E (zr_E (zr_E (zr_E (zr_E (zr_E (zr_E (zr_E (zr_E (zr_E hE (by decide)) (by decide)) (by decide)) (by decide)) (by decide)) (by decide)) (by decide)) (by decide)) (by decide)) (by decide)) (by decide)) (by decide)) (by omega) ?_
  exact j_vret d_M_swap_108 rfl (Nat.zero_le _) (Nat.zero_le _) h
set_option maxHeartbeats 2000000 in
theorem b_M_wholeProgram_0 {ω : q_W} {σ : q_H} {Q : q_R → q_H → Prop} {d mc ms : Nat}  {s : Nat} (hs : s = 110 ∨ s = 116) (rs0 : q_r σ 94 32 = s) (rs1 : q_r σ 94 33 = (s + 1)) (rs2 : q_r σ 94 34 = (s + 2)) (rs3 : q_r σ 94 35 = (s + 3)) (rs4 : q_r σ 94 36 = (s + 4)) (rs5 : q_r σ 94 37 = (s + 5)) (hE : q_E σ) (h : (J ω m_M_wholeProgram (d + 1) mc ms 0 0 45 [(0, .ref 94)] [] (zs (zs (zs (zs (zs (zs (zs (zs (zs σ 94 8 0) 94 9 0) 94 17 0) 94 18 0) 94 19 0) 94 20 0) 94 21 0) 94 44 0) 94 48 0) Q)) : J ω m_M_wholeProgram (d + 1) mc ms 0 0 0 [(0, .ref 94)] [] σ Q := by
  refine j_aload_n d_M_wholeProgram_0 0 rfl ?_
  refine j_iconst (v := zI 0) d_M_wholeProgram_1 (by decide) ?_
  refine zj_putI (g_M_218 _) d_M_wholeProgram_2 (tg_94 hE) (q_okE hE (by decide)) ?_
  refine j_aload_n d_M_wholeProgram_5 0 rfl ?_
  refine j_iconst (v := zI 0) d_M_wholeProgram_6 (by decide) ?_
  refine zj_putI (g_M_224 _) d_M_wholeProgram_7 (tg_94 (zs_E hE)) (q_okE (zs_E hE) (by decide)) ?_
  refine j_aload_n d_M_wholeProgram_10 0 rfl ?_
  refine j_iconst (v := zI 0) d_M_wholeProgram_11 (by decide) ?_
  refine zj_putI (g_M_246 _) d_M_wholeProgram_12 (tg_94 (zs_E (zs_E hE))) (q_okE (zs_E (zs_E hE)) (by decide)) ?_
  refine j_aload_n d_M_wholeProgram_15 0 rfl ?_
  refine j_iconst (v := zI 0) d_M_wholeProgram_16 (by decide) ?_
  refine zj_putI (g_M_264 _) d_M_wholeProgram_17 (tg_94 (zs_E (zs_E (zs_E hE)))) (q_okE (zs_E (zs_E (zs_E hE))) (by decide)) ?_
  refine j_aload_n d_M_wholeProgram_20 0 rfl ?_
  refine j_iconst (v := zI 0) d_M_wholeProgram_21 (by decide) ?_
  refine zj_putI (g_M_261 _) d_M_wholeProgram_22 (tg_94 (zs_E (zs_E (zs_E (zs_E hE))))) (q_okE (zs_E (zs_E (zs_E (zs_E hE)))) (by decide)) ?_
  refine j_aload_n d_M_wholeProgram_25 0 rfl ?_
  refine j_iconst (v := zI 0) d_M_wholeProgram_26 (by decide) ?_
  refine zj_putI (g_M_258 _) d_M_wholeProgram_27 (tg_94 (zs_E (zs_E (zs_E (zs_E (zs_E hE)))))) (q_okE (zs_E (zs_E (zs_E (zs_E (zs_E hE))))) (by decide)) ?_
  refine j_aload_n d_M_wholeProgram_30 0 rfl ?_
  refine j_iconst (v := zI 0) d_M_wholeProgram_31 (by decide) ?_
  refine zj_putI (g_M_280 _) d_M_wholeProgram_32 (tg_94 (zs_E (zs_E (zs_E (zs_E (zs_E (zs_E hE))))))) (q_okE (zs_E (zs_E (zs_E (zs_E (zs_E (zs_E hE)))))) (by decide)) ?_
  refine j_aload_n d_M_wholeProgram_35 0 rfl ?_
  refine j_iconst (v := zI 0) d_M_wholeProgram_36 (by decide) ?_
  refine zj_putI (g_M_243 _) d_M_wholeProgram_37 (tg_94 (zs_E (zs_E (zs_E (zs_E (zs_E (zs_E (zs_E hE)))))))) (q_okE (zs_E (zs_E (zs_E (zs_E (zs_E (zs_E (zs_E hE))))))) (by decide)) ?_
  refine j_aload_n d_M_wholeProgram_40 0 rfl ?_
  refine j_iconst (v := zI 0) d_M_wholeProgram_41 (by decide) ?_
  refine zj_putI (g_M_237 _) d_M_wholeProgram_42 (tg_94 (zs_E (zs_E (zs_E (zs_E (zs_E (zs_E (zs_E (zs_E hE))))))))) (q_okE (zs_E (zs_E (zs_E (zs_E (zs_E (zs_E (zs_E (zs_E hE)))))))) (by decide)) ?_
  exact j_sel [0] rfl h
set_option maxHeartbeats 2000000 in
theorem b_M_wholeProgram_45 {ω : q_W} {σ : q_H} {Q : q_R → q_H → Prop} {d mc ms : Nat}  {s : Nat} (hs : s = 110 ∨ s = 116) (rs0 : q_r σ 94 32 = s) (rs1 : q_r σ 94 33 = (s + 1)) (rs2 : q_r σ 94 34 = (s + 2)) (rs3 : q_r σ 94 35 = (s + 3)) (rs4 : q_r σ 94 36 = (s + 4)) (rs5 : q_r σ 94 37 = (s + 5)) (hE : q_E σ) (h : (0 ≤ (z σ 94 8) ∧ (z σ 94 8) < 4098) ∧ q_imp ((z σ 96 (z σ 94 8).toNat) = 256) ((J ω m_M_declaration d 0 0 0 0 0 [(0, .ref 94)] [] σ (q_ox (q_kv (fun τ => J ω m_M_wholeProgram (d + 1) mc ms 0 0 69 [(0, .ref 94)] [] τ Q)) (fun x τ => Q (.inr x) τ)))) ∧ q_imp ((z σ 96 (z σ 94 8).toNat) ≠ 256) (q_imp ((z σ 96 (z σ 94 8).toNat) ≠ 257) ((J ω m_M_wholeProgram (d + 1) mc ms 0 0 76 [(0, .ref 94), (1, .int (zI (-1))), (2, .int (zI (-1)))] [] σ Q)) ∧ q_imp ((z σ 96 (z σ 94 8).toNat) = 257) ((J ω m_M_declaration d 0 0 0 0 0 [(0, .ref 94)] [] σ (q_ox (q_kv (fun τ => J ω m_M_wholeProgram (d + 1) mc ms 0 0 69 [(0, .ref 94)] [] τ Q)) (fun x τ => Q (.inr x) τ)))))) : J ω m_M_wholeProgram (d + 1) mc ms 0 0 45 [(0, .ref 94)] [] σ Q := by
  refine j_aload_n d_M_wholeProgram_45 0 rfl ?_
  obtain ⟨c1, h⟩ := h
  refine j_callV m_M_kind [] [] 0 0 0 cV_M_227 d_M_wholeProgram_46 rfl rfl (tg_94 hE) (q_okE hE (by decide)) (Nat.le_of_ble_eq_true rfl) (Nat.succ_le_succ (Nat.zero_le _)) (Nat.le_of_ble_eq_true rfl) (Nat.zero_le _) (Nat.zero_le _) (c_M_kind2 hE c1 (q_z _ _ _) (q_z _ _ _)) (fun v τ h => ?_) (fun x τ h => absurd h.1 (by simp))
  obtain ⟨e1, e2⟩ := h; cases e1; rw [e2]
  refine j_sipush (v := zI 256) d_M_wholeProgram_49 (by decide) ?_
  obtain ⟨h1, h2⟩ := h
  refine zj_icmp_eq 65 d_M_wholeProgram_52 (by decide) (z_R _ _ _) ⟨by decide, by decide⟩ (fun k2 => ?_) (fun k2 => ?_)
  · have h := h1 k2
    refine j_aload_n d_M_wholeProgram_65 0 rfl ?_
    refine j_callV m_M_declaration [] [] d 0 0 cV_M_327 d_M_wholeProgram_66 rfl rfl (tg_94 hE) (q_okE hE (by decide)) (Nat.le_of_ble_eq_true rfl) (Nat.le_refl _) (Nat.le_of_ble_eq_true rfl) (Nat.zero_le _) (Nat.zero_le _) h (fun v τ h => ?_) (fun x τ h => ?_)
    · rcases h with h | ⟨x, e1, h⟩
      · obtain ⟨e1, h⟩ := h; cases e1; exact j_sel [0] rfl h
      · cases e1
    · rcases h with h | ⟨y, e1, h⟩
      · obtain ⟨e1, h⟩ := h; cases e1
      · cases e1; exact jt_out rfl (Nat.zero_le _) (Nat.zero_le _) h
  · have h := h2 k2
    refine j_aload_n d_M_wholeProgram_55 0 rfl ?_
    refine j_callV m_M_kind [] [] 0 0 0 cV_M_227 d_M_wholeProgram_56 rfl rfl (tg_94 hE) (q_okE hE (by decide)) (Nat.le_of_ble_eq_true rfl) (Nat.succ_le_succ (Nat.zero_le _)) (Nat.le_of_ble_eq_true rfl) (Nat.zero_le _) (Nat.zero_le _) (c_M_kind2 hE c1 (q_z _ _ _) (q_z _ _ _)) (fun v τ h => ?_) (fun x τ h => absurd h.1 (by simp))
    obtain ⟨e1, e2⟩ := h; cases e1; rw [e2]
    refine j_sipush (v := zI 257) d_M_wholeProgram_59 (by decide) ?_
    obtain ⟨h1, h2⟩ := h
    refine zj_icmp_ne 72 d_M_wholeProgram_62 (by decide) (z_R _ _ _) ⟨by decide, by decide⟩ (fun k3 => ?_) (fun k3 => ?_)
    · have h := h1 k3
      refine j_iconst (v := zI (-1)) d_M_wholeProgram_72 (by decide) ?_
      refine j_istore_n (L' := [(1, .int (zI (-1))), (0, .ref 94)]) d_M_wholeProgram_73 (by decide) rfl ?_
      refine j_iconst (v := zI (-1)) d_M_wholeProgram_74 (by decide) ?_
      refine j_istore_n (L' := [(2, .int (zI (-1))), (1, .int (zI (-1))), (0, .ref 94)]) d_M_wholeProgram_75 (by decide) rfl ?_
      exact j_sel [2, 1, 0] rfl h
    · have h := h2 k3
      refine j_aload_n d_M_wholeProgram_65 0 rfl ?_
      refine j_callV m_M_declaration [] [] d 0 0 cV_M_327 d_M_wholeProgram_66 rfl rfl (tg_94 hE) (q_okE hE (by decide)) (Nat.le_of_ble_eq_true rfl) (Nat.le_refl _) (Nat.le_of_ble_eq_true rfl) (Nat.zero_le _) (Nat.zero_le _) h (fun v τ h => ?_) (fun x τ h => ?_)
      · rcases h with h | ⟨x, e1, h⟩
        · obtain ⟨e1, h⟩ := h; cases e1; exact j_sel [0] rfl h
        · cases e1
      · rcases h with h | ⟨y, e1, h⟩
        · obtain ⟨e1, h⟩ := h; cases e1
        · cases e1; exact jt_out rfl (Nat.zero_le _) (Nat.zero_le _) h
set_option maxHeartbeats 2000000 in
theorem b_M_wholeProgram_69 {ω : q_W} {σ : q_H} {Q : q_R → q_H → Prop} {d mc ms : Nat}  {s : Nat} (hs : s = 110 ∨ s = 116) (rs0 : q_r σ 94 32 = s) (rs1 : q_r σ 94 33 = (s + 1)) (rs2 : q_r σ 94 34 = (s + 2)) (rs3 : q_r σ 94 35 = (s + 3)) (rs4 : q_r σ 94 36 = (s + 4)) (rs5 : q_r σ 94 37 = (s + 5)) (hE : q_E σ) (h : (J ω m_M_wholeProgram (d + 1) mc ms 0 0 45 [(0, .ref 94)] [] σ Q)) : J ω m_M_wholeProgram (d + 1) mc ms 0 0 69 [(0, .ref 94)] [] σ Q := by
  refine j_goto 45 d_M_wholeProgram_69 (by decide) ?_
  exact j_sel [0] rfl h
set_option maxHeartbeats 2000000 in
theorem b_M_wholeProgram_76 {ω : q_W} {σ : q_H} {Q : q_R → q_H → Prop} {d mc ms : Nat} {x1 : Int} {x2 : Int} {s : Nat} (hs : s = 110 ∨ s = 116) (rs0 : q_r σ 94 32 = s) (rs1 : q_r σ 94 33 = (s + 1)) (rs2 : q_r σ 94 34 = (s + 2)) (rs3 : q_r σ 94 35 = (s + 3)) (rs4 : q_r σ 94 36 = (s + 4)) (rs5 : q_r σ 94 37 = (s + 5)) (hE : q_E σ) (h : (0 ≤ (z σ 94 8) ∧ (z σ 94 8) < 4098) ∧ q_imp ((z σ 96 (z σ 94 8).toNat) = 273) ((Q (.inl (some (.int (zI x1)))) σ)) ∧ q_imp ((z σ 96 (z σ 94 8).toNat) ≠ 273) ((J ω m_M_statement d 0 0 0 0 0 [(0, .ref 94)] [] σ (q_ox (q_ki (fun v τ => J ω m_M_wholeProgram (d + 1) mc ms 0 0 90 [(0, .ref 94), (1, .int (zI x1)), (2, .int (zI x2))] [.int (zI v)] τ Q)) (fun x τ => Q (.inr x) τ))))) : J ω m_M_wholeProgram (d + 1) mc ms 0 0 76 [(0, .ref 94), (1, .int (zI x1)), (2, .int (zI x2))] [] σ Q := by
  refine j_aload_n d_M_wholeProgram_76 0 rfl ?_
  obtain ⟨c4, h⟩ := h
  refine j_callV m_M_kind [] [] 0 0 0 cV_M_227 d_M_wholeProgram_77 rfl rfl (tg_94 hE) (q_okE hE (by decide)) (Nat.le_of_ble_eq_true rfl) (Nat.succ_le_succ (Nat.zero_le _)) (Nat.le_of_ble_eq_true rfl) (Nat.zero_le _) (Nat.zero_le _) (c_M_kind2 hE c4 (q_z _ _ _) (q_z _ _ _)) (fun v τ h => ?_) (fun x τ h => absurd h.1 (by simp))
  obtain ⟨e1, e2⟩ := h; cases e1; rw [e2]
  refine j_sipush (v := zI 273) d_M_wholeProgram_80 (by decide) ?_
  obtain ⟨h1, h2⟩ := h
  refine zj_icmp_eq 112 d_M_wholeProgram_83 (by decide) (z_R _ _ _) ⟨by decide, by decide⟩ (fun k5 => ?_) (fun k5 => ?_)
  · have h := h1 k5
    refine j_iload_n d_M_wholeProgram_112 1 rfl ?_
    exact zj_iret d_M_wholeProgram_113 rfl (Nat.zero_le _) (Nat.zero_le _) h
  · have h := h2 k5
    refine j_aload_n d_M_wholeProgram_86 0 rfl ?_
    refine j_callV m_M_statement [] [] d 0 0 cV_M_277 d_M_wholeProgram_87 rfl rfl (tg_94 hE) (q_okE hE (by decide)) (Nat.le_of_ble_eq_true rfl) (Nat.le_refl _) (Nat.le_of_ble_eq_true rfl) (Nat.zero_le _) (Nat.zero_le _) h (fun v τ h => ?_) (fun x τ h => ?_)
    · rcases h with h | ⟨x, e1, h⟩
      · obtain ⟨v, hv, e1, h⟩ := h; cases e1; exact j_sel [0, 1, 2] rfl h
      · cases e1
    · rcases h with h | ⟨y, e1, h⟩
      · obtain ⟨v, hv, e1, h⟩ := h; cases e1
      · cases e1; exact jt_out rfl (Nat.zero_le _) (Nat.zero_le _) h
set_option maxHeartbeats 2000000 in
theorem b_M_wholeProgram_90 {ω : q_W} {σ : q_H} {Q : q_R → q_H → Prop} {d mc ms : Nat} {x1 : Int} {x2 : Int} {y0 : Int} {s : Nat} (hs : s = 110 ∨ s = 116) (rs0 : q_r σ 94 32 = s) (rs1 : q_r σ 94 33 = (s + 1)) (rs2 : q_r σ 94 34 = (s + 2)) (rs3 : q_r σ 94 35 = (s + 3)) (rs4 : q_r σ 94 36 = (s + 4)) (rs5 : q_r σ 94 37 = (s + 5)) (hE : q_E σ) (h : inR x2 ∧ q_imp (0 ≤ x2) ((0 ≤ x2 ∧ x2 < 9000) ∧ (J ω m_M_wholeProgram (d + 1) mc ms 0 0 76 [(0, .ref 94), (1, .int (zI x1)), (2, .int (zI y0))] [] (zs σ (s + 4) x2.toNat y0) Q)) ∧ q_imp (x2 < 0) ((J ω m_M_wholeProgram (d + 1) mc ms 0 0 76 [(0, .ref 94), (1, .int (zI y0)), (2, .int (zI y0))] [] σ Q))) : J ω m_M_wholeProgram (d + 1) mc ms 0 0 90 [(0, .ref 94), (1, .int (zI x1)), (2, .int (zI x2))] [.int (zI y0)] σ Q := by
  refine j_istore_n (L' := [(3, .int (zI y0)), (0, .ref 94), (1, .int (zI x1)), (2, .int (zI x2))]) d_M_wholeProgram_90 (by decide) rfl ?_
  refine j_iload_n d_M_wholeProgram_91 3 rfl ?_
  obtain ⟨r6, h⟩ := h
  obtain ⟨h1, h2⟩ := h
  refine zj_if_ge 100 d_M_wholeProgram_92 (by decide) r6 (fun k7 => ?_) (fun k7 => ?_)
  · have h := h1 k7
    refine j_aload_n d_M_wholeProgram_100 1 rfl ?_
    refine j_getR (s + 4) f_M_73 d_M_wholeProgram_101 (tg_94 hE) (q_okE hE (by decide)) (rs4) (by omega) ?_
    refine j_iload_n d_M_wholeProgram_104 3 rfl ?_
    refine j_iload_n d_M_wholeProgram_105 0 rfl ?_
    obtain ⟨c8, h⟩ := h
    refine zj_iast d_M_wholeProgram_106 (tY_s_4 hE hs) (q_okE hE (by omega)) c8 (by decide) ?_
    refine j_iload_n d_M_wholeProgram_107 0 rfl ?_
    refine j_istore_n (L' := [(2, .int (zI y0)), (3, .int (zI y0)), (0, .ref 94), (1, .int (zI x1))]) d_M_wholeProgram_108 (by decide) rfl ?_
    refine j_goto 76 d_M_wholeProgram_109 (by decide) ?_
    exact j_sel [2, 3, 0] rfl h
  · have h := h2 k7
    refine j_iload_n d_M_wholeProgram_95 0 rfl ?_
    refine j_istore_n (L' := [(1, .int (zI y0)), (3, .int (zI y0)), (0, .ref 94), (2, .int (zI x2))]) d_M_wholeProgram_96 (by decide) rfl ?_
    refine j_goto 107 d_M_wholeProgram_97 (by decide) ?_
    refine j_iload_n d_M_wholeProgram_107 1 rfl ?_
    refine j_istore_n (L' := [(2, .int (zI y0)), (1, .int (zI y0)), (3, .int (zI y0)), (0, .ref 94)]) d_M_wholeProgram_108 (by decide) rfl ?_
    refine j_goto 76 d_M_wholeProgram_109 (by decide) ?_
    exact j_sel [3, 1, 0] rfl h
set_option maxHeartbeats 2000000 in
theorem b_M_declaration_0 {ω : q_W} {σ : q_H} {Q : q_R → q_H → Prop} {d mc ms : Nat}  {s : Nat} (hs : s = 110 ∨ s = 116) (rs0 : q_r σ 94 32 = s) (rs1 : q_r σ 94 33 = (s + 1)) (rs2 : q_r σ 94 34 = (s + 2)) (rs3 : q_r σ 94 35 = (s + 3)) (rs4 : q_r σ 94 36 = (s + 4)) (rs5 : q_r σ 94 37 = (s + 5)) (hE : q_E σ) (h : (0 ≤ (z σ 94 8) ∧ (z σ 94 8) < 4098) ∧ q_imp ((z σ 96 (z σ 94 8).toNat) ≠ 256) ((J ω m_M_declaration (d + 1) mc ms 0 0 15 [(0, .ref 94)] [.int (zI 0)] σ Q)) ∧ q_imp ((z σ 96 (z σ 94 8).toNat) = 256) ((J ω m_M_declaration (d + 1) mc ms 0 0 15 [(0, .ref 94)] [.int (zI 1)] σ Q))) : J ω m_M_declaration (d + 1) mc ms 0 0 0 [(0, .ref 94)] [] σ Q := by
  refine j_aload_n d_M_declaration_0 0 rfl ?_
  obtain ⟨c1, h⟩ := h
  refine j_callV m_M_kind [] [] 0 0 0 cV_M_227 d_M_declaration_1 rfl rfl (tg_94 hE) (q_okE hE (by decide)) (Nat.le_of_ble_eq_true rfl) (Nat.succ_le_succ (Nat.zero_le _)) (Nat.le_of_ble_eq_true rfl) (Nat.zero_le _) (Nat.zero_le _) (c_M_kind2 hE c1 (q_z _ _ _) (q_z _ _ _)) (fun v τ h => ?_) (fun x τ h => absurd h.1 (by simp))
  obtain ⟨e1, e2⟩ := h; cases e1; rw [e2]
  refine j_sipush (v := zI 256) d_M_declaration_4 (by decide) ?_
  obtain ⟨h1, h2⟩ := h
  refine zj_icmp_ne 14 d_M_declaration_7 (by decide) (z_R _ _ _) ⟨by decide, by decide⟩ (fun k2 => ?_) (fun k2 => ?_)
  · have h := h1 k2
    refine j_iconst (v := zI 0) d_M_declaration_14 (by decide) ?_
    exact j_sel [0] rfl h
  · have h := h2 k2
    refine j_iconst (v := zI 1) d_M_declaration_10 (by decide) ?_
    refine j_goto 15 d_M_declaration_11 (by decide) ?_
    exact j_sel [0] rfl h
set_option maxHeartbeats 2000000 in
theorem b_M_declaration_15 {ω : q_W} {σ : q_H} {Q : q_R → q_H → Prop} {d mc ms : Nat} {y0 : Int} {s : Nat} (hs : s = 110 ∨ s = 116) (rs0 : q_r σ 94 32 = s) (rs1 : q_r σ 94 33 = (s + 1)) (rs2 : q_r σ 94 34 = (s + 2)) (rs3 : q_r σ 94 35 = (s + 3)) (rs4 : q_r σ 94 36 = (s + 4)) (rs5 : q_r σ 94 37 = (s + 5)) (hE : q_E σ) (h : (J ω m_M_taken d 0 0 0 0 0 [(0, .ref 94)] [] σ (q_ox (q_ki (fun v τ => J ω m_M_declaration (d + 1) mc ms 0 0 20 [(0, .ref 94), (1, .int (zI y0))] [.int (zI v)] τ Q)) (fun x τ => Q (.inr x) τ)))) : J ω m_M_declaration (d + 1) mc ms 0 0 15 [(0, .ref 94)] [.int (zI y0)] σ Q := by
  refine j_istore_n (L' := [(1, .int (zI y0)), (0, .ref 94)]) d_M_declaration_15 (by decide) rfl ?_
  refine j_aload_n d_M_declaration_16 1 rfl ?_
  refine j_callV m_M_taken [] [] d 0 0 cV_M_234 d_M_declaration_17 rfl rfl (tg_94 hE) (q_okE hE (by decide)) (Nat.le_of_ble_eq_true rfl) (Nat.le_refl _) (Nat.le_of_ble_eq_true rfl) (Nat.zero_le _) (Nat.zero_le _) h (fun v τ h => ?_) (fun x τ h => ?_)
  · rcases h with h | ⟨x, e1, h⟩
    · obtain ⟨v, hv, e1, h⟩ := h; cases e1; exact j_sel [1, 0] rfl h
    · cases e1
  · rcases h with h | ⟨y, e1, h⟩
    · obtain ⟨v, hv, e1, h⟩ := h; cases e1
    · cases e1; exact jt_out rfl (Nat.zero_le _) (Nat.zero_le _) h
set_option maxHeartbeats 2000000 in
theorem b_M_declaration_20 {ω : q_W} {σ : q_H} {Q : q_R → q_H → Prop} {d mc ms : Nat} {x1 : Int} {y0 : Int} {s : Nat} (hs : s = 110 ∨ s = 116) (rs0 : q_r σ 94 32 = s) (rs1 : q_r σ 94 33 = (s + 1)) (rs2 : q_r σ 94 34 = (s + 2)) (rs3 : q_r σ 94 35 = (s + 3)) (rs4 : q_r σ 94 36 = (s + 4)) (rs5 : q_r σ 94 37 = (s + 5)) (hE : q_E σ) (h : (J ω m_M_expect d 0 0 0 0 0 [(0, .ref 94), (1, .int (zI 263))] [] σ (q_ox (q_ki (fun v τ => J ω m_M_declaration (d + 1) mc ms 0 0 28 [(0, .ref 94), (1, .int (zI x1))] [.int (zI v)] τ Q)) (fun x τ => Q (.inr x) τ)))) : J ω m_M_declaration (d + 1) mc ms 0 0 20 [(0, .ref 94), (1, .int (zI x1))] [.int (zI y0)] σ Q := by
  refine j_istore_n (L' := [(2, .int (zI y0)), (0, .ref 94), (1, .int (zI x1))]) d_M_declaration_20 (by decide) rfl ?_
  refine j_aload_n d_M_declaration_21 1 rfl ?_
  refine j_sipush (v := zI 263) d_M_declaration_22 (by decide) ?_
  refine j_callV m_M_expect [.int (zI 263)] [] d 0 0 cV_M_249 d_M_declaration_25 rfl rfl (tg_94 hE) (q_okE hE (by decide)) (Nat.le_of_ble_eq_true rfl) (Nat.le_refl _) (Nat.le_of_ble_eq_true rfl) (Nat.zero_le _) (Nat.zero_le _) h (fun v τ h => ?_) (fun x τ h => ?_)
  · rcases h with h | ⟨x, e1, h⟩
    · obtain ⟨v, hv, e1, h⟩ := h; cases e1; exact j_sel [1, 2] rfl h
    · cases e1
  · rcases h with h | ⟨y, e1, h⟩
    · obtain ⟨v, hv, e1, h⟩ := h; cases e1
    · cases e1; exact jt_out rfl (Nat.zero_le _) (Nat.zero_le _) h
set_option maxHeartbeats 2000000 in
theorem b_M_declaration_28 {ω : q_W} {σ : q_H} {Q : q_R → q_H → Prop} {d mc ms : Nat} {x1 : Int} {y0 : Int} {s : Nat} (hs : s = 110 ∨ s = 116) (rs0 : q_r σ 94 32 = s) (rs1 : q_r σ 94 33 = (s + 1)) (rs2 : q_r σ 94 34 = (s + 2)) (rs3 : q_r σ 94 35 = (s + 3)) (rs4 : q_r σ 94 36 = (s + 4)) (rs5 : q_r σ 94 37 = (s + 5)) (hE : q_E σ) (h : (J ω m_M_expect d 0 0 0 0 0 [(0, .ref 94), (1, .int (zI 58))] [] σ (q_ox (q_ki (fun v τ => J ω m_M_declaration (d + 1) mc ms 0 0 35 [(0, .ref 94), (1, .int (zI x1)), (3, .int (zI y0))] [.int (zI v)] τ Q)) (fun x τ => Q (.inr x) τ)))) : J ω m_M_declaration (d + 1) mc ms 0 0 28 [(0, .ref 94), (1, .int (zI x1))] [.int (zI y0)] σ Q := by
  refine j_istore_n (L' := [(3, .int (zI y0)), (0, .ref 94), (1, .int (zI x1))]) d_M_declaration_28 (by decide) rfl ?_
  refine j_aload_n d_M_declaration_29 1 rfl ?_
  refine j_bipush (v := zI 58) d_M_declaration_30 (by decide) ?_
  refine j_callV m_M_expect [.int (zI 58)] [] d 0 0 cV_M_249 d_M_declaration_32 rfl rfl (tg_94 hE) (q_okE hE (by decide)) (Nat.le_of_ble_eq_true rfl) (Nat.le_refl _) (Nat.le_of_ble_eq_true rfl) (Nat.zero_le _) (Nat.zero_le _) h (fun v τ h => ?_) (fun x τ h => ?_)
  · rcases h with h | ⟨x, e1, h⟩
    · obtain ⟨v, hv, e1, h⟩ := h; cases e1; exact j_sel [1, 2, 0] rfl h
    · cases e1
  · rcases h with h | ⟨y, e1, h⟩
    · obtain ⟨v, hv, e1, h⟩ := h; cases e1
    · cases e1; exact jt_out rfl (Nat.zero_le _) (Nat.zero_le _) h
set_option maxHeartbeats 2000000 in
theorem b_M_declaration_35 {ω : q_W} {σ : q_H} {Q : q_R → q_H → Prop} {d mc ms : Nat} {x1 : Int} {x3 : Int} {y0 : Int} {s : Nat} (hs : s = 110 ∨ s = 116) (rs0 : q_r σ 94 32 = s) (rs1 : q_r σ 94 33 = (s + 1)) (rs2 : q_r σ 94 34 = (s + 2)) (rs3 : q_r σ 94 35 = (s + 3)) (rs4 : q_r σ 94 36 = (s + 4)) (rs5 : q_r σ 94 37 = (s + 5)) (hE : q_E σ) (h : (J ω m_M_expect d 0 0 0 0 0 [(0, .ref 94), (1, .int (zI 264))] [] σ (q_ox (q_ki (fun v τ => J ω m_M_declaration (d + 1) mc ms 0 0 43 [(0, .ref 94), (1, .int (zI x1)), (3, .int (zI x3))] [.int (zI v)] τ Q)) (fun x τ => Q (.inr x) τ)))) : J ω m_M_declaration (d + 1) mc ms 0 0 35 [(0, .ref 94), (1, .int (zI x1)), (3, .int (zI x3))] [.int (zI y0)] σ Q := by
  refine j_istore_n (L' := [(2, .int (zI y0)), (0, .ref 94), (1, .int (zI x1)), (3, .int (zI x3))]) d_M_declaration_35 (by decide) rfl ?_
  refine j_aload_n d_M_declaration_36 1 rfl ?_
  refine j_sipush (v := zI 264) d_M_declaration_37 (by decide) ?_
  refine j_callV m_M_expect [.int (zI 264)] [] d 0 0 cV_M_249 d_M_declaration_40 rfl rfl (tg_94 hE) (q_okE hE (by decide)) (Nat.le_of_ble_eq_true rfl) (Nat.le_refl _) (Nat.le_of_ble_eq_true rfl) (Nat.zero_le _) (Nat.zero_le _) h (fun v τ h => ?_) (fun x τ h => ?_)
  · rcases h with h | ⟨x, e1, h⟩
    · obtain ⟨v, hv, e1, h⟩ := h; cases e1; exact j_sel [1, 2, 3] rfl h
    · cases e1
  · rcases h with h | ⟨y, e1, h⟩
    · obtain ⟨v, hv, e1, h⟩ := h; cases e1
    · cases e1; exact jt_out rfl (Nat.zero_le _) (Nat.zero_le _) h
set_option maxHeartbeats 2000000 in
theorem b_M_declaration_43 {ω : q_W} {σ : q_H} {Q : q_R → q_H → Prop} {d mc ms : Nat} {x1 : Int} {x3 : Int} {y0 : Int} {s : Nat} (hs : s = 110 ∨ s = 116) (rs0 : q_r σ 94 32 = s) (rs1 : q_r σ 94 33 = (s + 1)) (rs2 : q_r σ 94 34 = (s + 2)) (rs3 : q_r σ 94 35 = (s + 3)) (rs4 : q_r σ 94 36 = (s + 4)) (rs5 : q_r σ 94 37 = (s + 5)) (hE : q_E σ) (h : (J ω m_M_expect d 0 0 0 0 0 [(0, .ref 94), (1, .int (zI 59))] [] σ (q_ox (q_ki (fun v τ => J ω m_M_declaration (d + 1) mc ms 0 0 51 [(0, .ref 94), (1, .int (zI x1)), (3, .int (zI x3)), (4, .int (zI y0))] [.int (zI v)] τ Q)) (fun x τ => Q (.inr x) τ)))) : J ω m_M_declaration (d + 1) mc ms 0 0 43 [(0, .ref 94), (1, .int (zI x1)), (3, .int (zI x3))] [.int (zI y0)] σ Q := by
  refine j_istore (L' := [(4, .int (zI y0)), (0, .ref 94), (1, .int (zI x1)), (3, .int (zI x3))]) d_M_declaration_43 (by decide) rfl ?_
  refine j_aload_n d_M_declaration_45 1 rfl ?_
  refine j_bipush (v := zI 59) d_M_declaration_46 (by decide) ?_
  refine j_callV m_M_expect [.int (zI 59)] [] d 0 0 cV_M_249 d_M_declaration_48 rfl rfl (tg_94 hE) (q_okE hE (by decide)) (Nat.le_of_ble_eq_true rfl) (Nat.le_refl _) (Nat.le_of_ble_eq_true rfl) (Nat.zero_le _) (Nat.zero_le _) h (fun v τ h => ?_) (fun x τ h => ?_)
  · rcases h with h | ⟨x, e1, h⟩
    · obtain ⟨v, hv, e1, h⟩ := h; cases e1; exact j_sel [1, 2, 3, 0] rfl h
    · cases e1
  · rcases h with h | ⟨y, e1, h⟩
    · obtain ⟨v, hv, e1, h⟩ := h; cases e1
    · cases e1; exact jt_out rfl (Nat.zero_le _) (Nat.zero_le _) h
set_option maxHeartbeats 2000000 in
theorem b_M_declaration_51 {ω : q_W} {σ : q_H} {Q : q_R → q_H → Prop} {d mc ms : Nat} {x1 : Int} {x3 : Int} {x4 : Int} {y0 : Int} {s : Nat} (hs : s = 110 ∨ s = 116) (rs0 : q_r σ 94 32 = s) (rs1 : q_r σ 94 33 = (s + 1)) (rs2 : q_r σ 94 34 = (s + 2)) (rs3 : q_r σ 94 35 = (s + 3)) (rs4 : q_r σ 94 36 = (s + 4)) (rs5 : q_r σ 94 37 = (s + 5)) (hE : q_E σ) (h : (0 ≤ x3 ∧ x3 < 4098) ∧ (J ω m_M_lookUp d 0 0 0 0 0 [(0, .ref 94), (1, .long (q_l σ 99 x3.toNat))] [] σ (q_ki (fun v τ => J ω m_M_declaration (d + 1) mc ms 0 0 62 [(0, .ref 94), (1, .int (zI x1)), (3, .int (zI x3)), (4, .int (zI x4))] [.int (zI v)] τ Q)))) : J ω m_M_declaration (d + 1) mc ms 0 0 51 [(0, .ref 94), (1, .int (zI x1)), (3, .int (zI x3)), (4, .int (zI x4))] [.int (zI y0)] σ Q := by
  refine j_istore_n (L' := [(2, .int (zI y0)), (0, .ref 94), (1, .int (zI x1)), (3, .int (zI x3)), (4, .int (zI x4))]) d_M_declaration_51 (by decide) rfl ?_
  refine j_aload_n d_M_declaration_52 1 rfl ?_
  refine j_aload_n d_M_declaration_53 1 rfl ?_
  refine j_getR 99 f_M_23 d_M_declaration_54 (tg_94 hE) (q_okE hE (by decide)) (rf_94_6 hE) (by decide) ?_
  refine j_iload_n d_M_declaration_57 3 rfl ?_
  obtain ⟨c3, h⟩ := h
  refine zj_lald (q_l σ 99 x3.toNat) d_M_declaration_58 (tg_99 hE) (q_okE hE (by decide)) c3 (by decide) (rfl) ?_
  refine j_callV m_M_lookUp [.long (q_l σ 99 x3.toNat)] [] d 0 0 cV_M_252 d_M_declaration_59 rfl rfl (tg_94 hE) (q_okE hE (by decide)) (Nat.le_of_ble_eq_true rfl) (Nat.le_refl _) (Nat.le_of_ble_eq_true rfl) (Nat.zero_le _) (Nat.zero_le _) h (fun v τ h => ?_) (fun x τ h => ?_)
  · obtain ⟨v, hv, e1, h⟩ := h; cases e1; exact j_sel [1, 2, 3, 4] rfl h
  · obtain ⟨v, hv, e1, h⟩ := h; cases e1
set_option maxHeartbeats 2000000 in
theorem b_M_declaration_62 {ω : q_W} {σ : q_H} {Q : q_R → q_H → Prop} {d mc ms : Nat} {x1 : Int} {x3 : Int} {x4 : Int} {y0 : Int} {s : Nat} (hs : s = 110 ∨ s = 116) (rs0 : q_r σ 94 32 = s) (rs1 : q_r σ 94 33 = (s + 1)) (rs2 : q_r σ 94 34 = (s + 2)) (rs3 : q_r σ 94 35 = (s + 3)) (rs4 : q_r σ 94 36 = (s + 4)) (rs5 : q_r σ 94 37 = (s + 5)) (hE : q_E σ) (h : inR y0 ∧ q_imp (y0 < 0) ((J ω m_M_declaration (d + 1) mc ms 0 0 70 [(0, .ref 94), (1, .int (zI x1)), (3, .int (zI x3)), (4, .int (zI x4))] [.int (zI 0)] σ Q)) ∧ q_imp (0 ≤ y0) ((J ω m_M_declaration (d + 1) mc ms 0 0 70 [(0, .ref 94), (1, .int (zI x1)), (3, .int (zI x3)), (4, .int (zI x4))] [.int (zI 1)] σ Q))) : J ω m_M_declaration (d + 1) mc ms 0 0 62 [(0, .ref 94), (1, .int (zI x1)), (3, .int (zI x3)), (4, .int (zI x4))] [.int (zI y0)] σ Q := by
  obtain ⟨r4, h⟩ := h
  obtain ⟨h1, h2⟩ := h
  refine zj_if_lt 69 d_M_declaration_62 (by decide) r4 (fun k5 => ?_) (fun k5 => ?_)
  · have h := h1 k5
    refine j_iconst (v := zI 0) d_M_declaration_69 (by decide) ?_
    exact j_sel [0, 1, 2, 3] rfl h
  · have h := h2 k5
    refine j_iconst (v := zI 1) d_M_declaration_65 (by decide) ?_
    refine j_goto 70 d_M_declaration_66 (by decide) ?_
    exact j_sel [0, 1, 2, 3] rfl h
set_option maxHeartbeats 2000000 in
theorem b_M_declaration_70 {ω : q_W} {σ : q_H} {Q : q_R → q_H → Prop} {d mc ms : Nat} {x1 : Int} {x3 : Int} {x4 : Int} {y0 : Int} {s : Nat} (hs : s = 110 ∨ s = 116) (rs0 : q_r σ 94 32 = s) (rs1 : q_r σ 94 33 = (s + 1)) (rs2 : q_r σ 94 34 = (s + 2)) (rs3 : q_r σ 94 35 = (s + 3)) (rs4 : q_r σ 94 36 = (s + 4)) (rs5 : q_r σ 94 37 = (s + 5)) (hE : q_E σ) (h : (0 ≤ x4 ∧ x4 < 4098) ∧ q_imp ((z σ 98 x4.toNat) < 1) ((J ω m_M_declaration (d + 1) mc ms 0 0 100 [(0, .ref 94), (1, .int (zI x1)), (3, .int (zI x3)), (4, .int (zI x4)), (5, .int (zI y0))] [.int (zI 0)] σ Q)) ∧ q_imp ((z σ 98 x4.toNat) ≥ 1) (q_imp ((z σ 98 x4.toNat) > 8) ((J ω m_M_declaration (d + 1) mc ms 0 0 100 [(0, .ref 94), (1, .int (zI x1)), (3, .int (zI x3)), (4, .int (zI x4)), (5, .int (zI y0))] [.int (zI 0)] σ Q)) ∧ q_imp ((z σ 98 x4.toNat) ≤ 8) ((J ω m_M_declaration (d + 1) mc ms 0 0 100 [(0, .ref 94), (1, .int (zI x1)), (3, .int (zI x3)), (4, .int (zI x4)), (5, .int (zI y0))] [.int (zI 1)] σ Q)))) : J ω m_M_declaration (d + 1) mc ms 0 0 70 [(0, .ref 94), (1, .int (zI x1)), (3, .int (zI x3)), (4, .int (zI x4))] [.int (zI y0)] σ Q := by
  refine j_istore (L' := [(5, .int (zI y0)), (0, .ref 94), (1, .int (zI x1)), (3, .int (zI x3)), (4, .int (zI x4))]) d_M_declaration_70 (by decide) rfl ?_
  refine j_aload_n d_M_declaration_72 1 rfl ?_
  refine j_getR 98 f_M_20 d_M_declaration_73 (tg_94 hE) (q_okE hE (by decide)) (rf_94_5 hE) (by decide) ?_
  refine j_iload d_M_declaration_76 4 rfl ?_
  obtain ⟨c6, h⟩ := h
  refine zj_iald (z σ 98 x4.toNat) d_M_declaration_78 (tg_98 hE) (q_okE hE (by decide)) c6 (by decide) (q_z _ _ _) ?_
  refine j_iconst (v := zI 1) d_M_declaration_79 (by decide) ?_
  obtain ⟨h1, h2⟩ := h
  refine zj_icmp_lt 99 d_M_declaration_80 (by decide) (z_R _ _ _) ⟨by decide, by decide⟩ (fun k7 => ?_) (fun k7 => ?_)
  · have h := h1 k7
    refine j_iconst (v := zI 0) d_M_declaration_99 (by decide) ?_
    exact j_sel [1, 2, 3, 4, 0] rfl h
  · have h := h2 k7
    refine j_aload_n d_M_declaration_83 1 rfl ?_
    refine j_getR 98 f_M_20 d_M_declaration_84 (tg_94 hE) (q_okE hE (by decide)) (rf_94_5 hE) (by decide) ?_
    refine j_iload d_M_declaration_87 4 rfl ?_
    refine zj_iald (z σ 98 x4.toNat) d_M_declaration_89 (tg_98 hE) (q_okE hE (by decide)) c6 (by decide) (q_z _ _ _) ?_
    refine j_bipush (v := zI 8) d_M_declaration_90 (by decide) ?_
    obtain ⟨h1, h2⟩ := h
    refine zj_icmp_gt 99 d_M_declaration_92 (by decide) (z_R _ _ _) ⟨by decide, by decide⟩ (fun k8 => ?_) (fun k8 => ?_)
    · have h := h1 k8
      refine j_iconst (v := zI 0) d_M_declaration_99 (by decide) ?_
      exact j_sel [1, 2, 3, 4, 0] rfl h
    · have h := h2 k8
      refine j_iconst (v := zI 1) d_M_declaration_95 (by decide) ?_
      refine j_goto 100 d_M_declaration_96 (by decide) ?_
      exact j_sel [1, 2, 3, 4, 0] rfl h
set_option maxHeartbeats 2000000 in
theorem b_M_declaration_100 {ω : q_W} {σ : q_H} {Q : q_R → q_H → Prop} {d mc ms : Nat} {x1 : Int} {x3 : Int} {x4 : Int} {x5 : Int} {y0 : Int} {s : Nat} (hs : s = 110 ∨ s = 116) (rs0 : q_r σ 94 32 = s) (rs1 : q_r σ 94 33 = (s + 1)) (rs2 : q_r σ 94 34 = (s + 2)) (rs3 : q_r σ 94 35 = (s + 3)) (rs4 : q_r σ 94 36 = (s + 4)) (rs5 : q_r σ 94 37 = (s + 5)) (hE : q_E σ) (h : inR x5 ∧ q_imp (x5 = 0) (inR y0 ∧ q_imp (y0 ≠ 0) ((J ω m_M_declaration (d + 1) mc ms 0 0 125 [(0, .ref 94), (1, .int (zI x1)), (3, .int (zI x3)), (4, .int (zI x4)), (5, .int (zI x5)), (6, .int (zI y0))] [] σ Q)) ∧ q_imp (y0 = 0) ((J ω m_M_found d 0 0 0 0 0 [(0, .ref 94), (1, .int (zI 5)), (2, .int (zI x4))] [] σ (q_kv (fun τ => J ω m_M_declaration (d + 1) mc ms 0 0 125 [(0, .ref 94), (1, .int (zI x1)), (3, .int (zI x3)), (4, .int (zI x4)), (5, .int (zI x5)), (6, .int (zI y0))] [] τ Q))))) ∧ q_imp (x5 ≠ 0) ((J ω m_M_found d 0 0 0 0 0 [(0, .ref 94), (1, .int (zI 3)), (2, .int (zI x3))] [] σ (q_kv (fun τ => J ω m_M_declaration (d + 1) mc ms 0 0 113 [(0, .ref 94), (1, .int (zI x1)), (3, .int (zI x3)), (4, .int (zI x4)), (5, .int (zI x5)), (6, .int (zI y0))] [] τ Q))))) : J ω m_M_declaration (d + 1) mc ms 0 0 100 [(0, .ref 94), (1, .int (zI x1)), (3, .int (zI x3)), (4, .int (zI x4)), (5, .int (zI x5))] [.int (zI y0)] σ Q := by
  refine j_istore (L' := [(6, .int (zI y0)), (0, .ref 94), (1, .int (zI x1)), (3, .int (zI x3)), (4, .int (zI x4)), (5, .int (zI x5))]) d_M_declaration_100 (by decide) rfl ?_
  refine j_iload d_M_declaration_102 5 rfl ?_
  obtain ⟨r9, h⟩ := h
  obtain ⟨h1, h2⟩ := h
  refine zj_if_eq 113 d_M_declaration_104 (by decide) r9 (fun k10 => ?_) (fun k10 => ?_)
  · have h := h1 k10
    refine j_iload d_M_declaration_113 0 rfl ?_
    obtain ⟨r11, h⟩ := h
    obtain ⟨h1, h2⟩ := h
    refine zj_if_ne 125 d_M_declaration_115 (by decide) r11 (fun k12 => ?_) (fun k12 => ?_)
    · have h := h1 k12
      exact j_sel [1, 2, 3, 4, 5, 0] rfl h
    · have h := h2 k12
      refine j_aload_n d_M_declaration_118 1 rfl ?_
      refine j_iconst (v := zI 5) d_M_declaration_119 (by decide) ?_
      refine j_iload d_M_declaration_120 4 rfl ?_
      refine j_callV m_M_found [.int (zI 5), .int (zI x4)] [] d 0 0 cV_M_255 d_M_declaration_122 rfl rfl (tg_94 hE) (q_okE hE (by decide)) (Nat.le_of_ble_eq_true rfl) (Nat.le_refl _) (Nat.le_of_ble_eq_true rfl) (Nat.zero_le _) (Nat.zero_le _) h (fun v τ h => ?_) (fun x τ h => ?_)
      · obtain ⟨e1, h⟩ := h; cases e1; exact j_sel [1, 2, 3, 4, 5, 0] rfl h
      · obtain ⟨e1, h⟩ := h; cases e1
  · have h := h2 k10
    refine j_aload_n d_M_declaration_107 1 rfl ?_
    refine j_iconst (v := zI 3) d_M_declaration_108 (by decide) ?_
    refine j_iload_n d_M_declaration_109 3 rfl ?_
    refine j_callV m_M_found [.int (zI 3), .int (zI x3)] [] d 0 0 cV_M_255 d_M_declaration_110 rfl rfl (tg_94 hE) (q_okE hE (by decide)) (Nat.le_of_ble_eq_true rfl) (Nat.le_refl _) (Nat.le_of_ble_eq_true rfl) (Nat.zero_le _) (Nat.zero_le _) h (fun v τ h => ?_) (fun x τ h => ?_)
    · obtain ⟨e1, h⟩ := h; cases e1; exact j_sel [1, 2, 3, 4, 5, 0] rfl h
    · obtain ⟨e1, h⟩ := h; cases e1
set_option maxHeartbeats 2000000 in
theorem b_M_declaration_125 {ω : q_W} {σ : q_H} {Q : q_R → q_H → Prop} {d mc ms : Nat} {x1 : Int} {x3 : Int} {x4 : Int} {x5 : Int} {x6 : Int} {s : Nat} (hs : s = 110 ∨ s = 116) (rs0 : q_r σ 94 32 = s) (rs1 : q_r σ 94 33 = (s + 1)) (rs2 : q_r σ 94 34 = (s + 2)) (rs3 : q_r σ 94 35 = (s + 3)) (rs4 : q_r σ 94 36 = (s + 4)) (rs5 : q_r σ 94 37 = (s + 5)) (hE : q_E σ) (h : inR x5 ∧ q_imp (x5 ≠ 0) ((Q (.inl none) σ)) ∧ q_imp (x5 = 0) (inR x6 ∧ q_imp (x6 ≠ 0) (inR x1 ∧ q_imp (x1 = 0) (q_imp ((z σ 94 19) ≠ 12) ((J ω m_M_declaration (d + 1) mc ms 0 0 177 [(0, .ref 94), (1, .int (zI x1)), (3, .int (zI x3)), (4, .int (zI x4))] [] σ Q)) ∧ q_imp ((z σ 94 19) = 12) ((J ω m_M_found d 0 0 0 0 0 [(0, .ref 94), (1, .int (zI 6)), (2, .int (zI x3))] [] σ (q_kv (fun τ => J ω m_M_declaration (d + 1) mc ms 0 0 176 [] [] τ Q))))) ∧ q_imp (x1 ≠ 0) ((0 ≤ x4 ∧ x4 < 4098) ∧ inR ((z σ 94 20) + (z σ 98 x4.toNat)) ∧ q_imp (((z σ 94 20) + (z σ 98 x4.toNat)) ≤ 12) ((J ω m_M_declaration (d + 1) mc ms 0 0 177 [(0, .ref 94), (1, .int (zI x1)), (3, .int (zI x3)), (4, .int (zI x4))] [] σ Q)) ∧ q_imp (((z σ 94 20) + (z σ 98 x4.toNat)) > 12) ((J ω m_M_found d 0 0 0 0 0 [(0, .ref 94), (1, .int (zI 6)), (2, .int (zI x3))] [] σ (q_kv (fun τ => J ω m_M_declaration (d + 1) mc ms 0 0 176 [] [] τ Q)))))) ∧ q_imp (x6 = 0) ((Q (.inl none) σ)))) : J ω m_M_declaration (d + 1) mc ms 0 0 125 [(0, .ref 94), (1, .int (zI x1)), (3, .int (zI x3)), (4, .int (zI x4)), (5, .int (zI x5)), (6, .int (zI x6))] [] σ Q := by
  refine j_iload d_M_declaration_125 4 rfl ?_
  obtain ⟨r13, h⟩ := h
  obtain ⟨h1, h2⟩ := h
  refine zj_if_ne 135 d_M_declaration_127 (by decide) r13 (fun k14 => ?_) (fun k14 => ?_)
  · have h := h1 k14
    exact j_vret d_M_declaration_135 rfl (Nat.zero_le _) (Nat.zero_le _) h
  · have h := h2 k14
    refine j_iload d_M_declaration_130 5 rfl ?_
    obtain ⟨r15, h⟩ := h
    obtain ⟨h1, h2⟩ := h
    refine zj_if_ne 136 d_M_declaration_132 (by decide) r15 (fun k16 => ?_) (fun k16 => ?_)
    · have h := h1 k16
      refine j_iload_n d_M_declaration_136 1 rfl ?_
      obtain ⟨r17, h⟩ := h
      obtain ⟨h1, h2⟩ := h
      refine zj_if_eq 160 d_M_declaration_137 (by decide) r17 (fun k18 => ?_) (fun k18 => ?_)
      · have h := h1 k18
        refine j_aload_n d_M_declaration_160 0 rfl ?_
        refine zj_getI (z σ 94 19) f_M_261 d_M_declaration_161 (tg_94 hE) (q_okE hE (by decide)) (q_z _ _ _) ?_
        refine j_bipush (v := zI 12) d_M_declaration_164 (by decide) ?_
        obtain ⟨h1, h2⟩ := h
        refine zj_icmp_ne 177 d_M_declaration_166 (by decide) (z_R _ _ _) ⟨by decide, by decide⟩ (fun k19 => ?_) (fun k19 => ?_)
        · have h := h1 k19
          exact j_sel [0, 1, 2, 3] rfl h
        · have h := h2 k19
          refine j_aload_n d_M_declaration_169 0 rfl ?_
          refine j_bipush (v := zI 6) d_M_declaration_170 (by decide) ?_
          refine j_iload_n d_M_declaration_172 2 rfl ?_
          refine j_callV m_M_found [.int (zI 6), .int (zI x3)] [] d 0 0 cV_M_255 d_M_declaration_173 rfl rfl (tg_94 hE) (q_okE hE (by decide)) (Nat.le_of_ble_eq_true rfl) (Nat.le_refl _) (Nat.le_of_ble_eq_true rfl) (Nat.zero_le _) (Nat.zero_le _) h (fun v τ h => ?_) (fun x τ h => ?_)
          · obtain ⟨e1, h⟩ := h; cases e1; exact j_sel [] rfl h
          · obtain ⟨e1, h⟩ := h; cases e1
      · have h := h2 k18
        refine j_aload_n d_M_declaration_140 0 rfl ?_
        refine zj_getI (z σ 94 20) f_M_258 d_M_declaration_141 (tg_94 hE) (q_okE hE (by decide)) (q_z _ _ _) ?_
        refine j_aload_n d_M_declaration_144 0 rfl ?_
        refine j_getR 98 f_M_20 d_M_declaration_145 (tg_94 hE) (q_okE hE (by decide)) (rf_94_5 hE) (by decide) ?_
        refine j_iload d_M_declaration_148 3 rfl ?_
        obtain ⟨c20, h⟩ := h
        refine zj_iald (z σ 98 x4.toNat) d_M_declaration_150 (tg_98 hE) (q_okE hE (by decide)) c20 (by decide) (q_z _ _ _) ?_
        refine zj_iadd ((z σ 94 20) + (z σ 98 x4.toNat)) rfl d_M_declaration_151 ?_
        refine j_bipush (v := zI 12) d_M_declaration_152 (by decide) ?_
        obtain ⟨r21, h⟩ := h
        obtain ⟨h1, h2⟩ := h
        refine zj_icmp_le 177 d_M_declaration_154 (by decide) r21 ⟨by decide, by decide⟩ (fun k22 => ?_) (fun k22 => ?_)
        · have h := h1 k22
          exact j_sel [0, 1, 2, 3] rfl h
        · have h := h2 k22
          refine j_goto 169 d_M_declaration_157 (by decide) ?_
          refine j_aload_n d_M_declaration_169 0 rfl ?_
          refine j_bipush (v := zI 6) d_M_declaration_170 (by decide) ?_
          refine j_iload_n d_M_declaration_172 2 rfl ?_
          refine j_callV m_M_found [.int (zI 6), .int (zI x3)] [] d 0 0 cV_M_255 d_M_declaration_173 rfl rfl (tg_94 hE) (q_okE hE (by decide)) (Nat.le_of_ble_eq_true rfl) (Nat.le_refl _) (Nat.le_of_ble_eq_true rfl) (Nat.zero_le _) (Nat.zero_le _) h (fun v τ h => ?_) (fun x τ h => ?_)
          · obtain ⟨e1, h⟩ := h; cases e1; exact j_sel [] rfl h
          · obtain ⟨e1, h⟩ := h; cases e1
    · have h := h2 k16
      exact j_vret d_M_declaration_135 rfl (Nat.zero_le _) (Nat.zero_le _) h
set_option maxHeartbeats 2000000 in
theorem b_M_declaration_113 {ω : q_W} {σ : q_H} {Q : q_R → q_H → Prop} {d mc ms : Nat} {x1 : Int} {x3 : Int} {x4 : Int} {x5 : Int} {x6 : Int} {s : Nat} (hs : s = 110 ∨ s = 116) (rs0 : q_r σ 94 32 = s) (rs1 : q_r σ 94 33 = (s + 1)) (rs2 : q_r σ 94 34 = (s + 2)) (rs3 : q_r σ 94 35 = (s + 3)) (rs4 : q_r σ 94 36 = (s + 4)) (rs5 : q_r σ 94 37 = (s + 5)) (hE : q_E σ) (h : inR x6 ∧ q_imp (x6 ≠ 0) ((J ω m_M_declaration (d + 1) mc ms 0 0 125 [(0, .ref 94), (1, .int (zI x1)), (3, .int (zI x3)), (4, .int (zI x4)), (5, .int (zI x5)), (6, .int (zI x6))] [] σ Q)) ∧ q_imp (x6 = 0) ((J ω m_M_found d 0 0 0 0 0 [(0, .ref 94), (1, .int (zI 5)), (2, .int (zI x4))] [] σ (q_kv (fun τ => J ω m_M_declaration (d + 1) mc ms 0 0 125 [(0, .ref 94), (1, .int (zI x1)), (3, .int (zI x3)), (4, .int (zI x4)), (5, .int (zI x5)), (6, .int (zI x6))] [] τ Q))))) : J ω m_M_declaration (d + 1) mc ms 0 0 113 [(0, .ref 94), (1, .int (zI x1)), (3, .int (zI x3)), (4, .int (zI x4)), (5, .int (zI x5)), (6, .int (zI x6))] [] σ Q := by
  refine j_iload d_M_declaration_113 5 rfl ?_
  obtain ⟨r23, h⟩ := h
  obtain ⟨h1, h2⟩ := h
  refine zj_if_ne 125 d_M_declaration_115 (by decide) r23 (fun k24 => ?_) (fun k24 => ?_)
  · have h := h1 k24
    exact j_sel [0, 1, 2, 3, 4, 5] rfl h
  · have h := h2 k24
    refine j_aload_n d_M_declaration_118 0 rfl ?_
    refine j_iconst (v := zI 5) d_M_declaration_119 (by decide) ?_
    refine j_iload d_M_declaration_120 3 rfl ?_
    refine j_callV m_M_found [.int (zI 5), .int (zI x4)] [] d 0 0 cV_M_255 d_M_declaration_122 rfl rfl (tg_94 hE) (q_okE hE (by decide)) (Nat.le_of_ble_eq_true rfl) (Nat.le_refl _) (Nat.le_of_ble_eq_true rfl) (Nat.zero_le _) (Nat.zero_le _) h (fun v τ h => ?_) (fun x τ h => ?_)
    · obtain ⟨e1, h⟩ := h; cases e1; exact j_sel [0, 1, 2, 3, 4, 5] rfl h
    · obtain ⟨e1, h⟩ := h; cases e1
set_option maxHeartbeats 2000000 in
theorem b_M_declaration_177 {ω : q_W} {σ : q_H} {Q : q_R → q_H → Prop} {d mc ms : Nat} {x1 : Int} {x3 : Int} {x4 : Int} {s : Nat} (hs : s = 110 ∨ s = 116) (rs0 : q_r σ 94 32 = s) (rs1 : q_r σ 94 33 = (s + 1)) (rs2 : q_r σ 94 34 = (s + 2)) (rs3 : q_r σ 94 35 = (s + 3)) (rs4 : q_r σ 94 36 = (s + 4)) (rs5 : q_r σ 94 37 = (s + 5)) (hE : q_E σ) (h : (0 ≤ x3 ∧ x3 < 4098) ∧ (0 ≤ (z σ 94 17) ∧ (z σ 94 17) < 400) ∧ inR x1 ∧ q_imp (x1 = 0) ((J ω m_M_declaration (d + 1) mc ms 0 0 209 [(0, .ref 94), (1, .int (zI x1)), (4, .int (zI x4))] [.int (zI 0), .int (zI (z σ 94 17)), .ref 103] (zt σ 102 (z σ 94 17).toNat (q_l σ 99 x3.toNat)) Q)) ∧ q_imp (x1 ≠ 0) ((J ω m_M_declaration (d + 1) mc ms 0 0 209 [(0, .ref 94), (1, .int (zI x1)), (4, .int (zI x4))] [.int (zI 1), .int (zI (z σ 94 17)), .ref 103] (zt σ 102 (z σ 94 17).toNat (q_l σ 99 x3.toNat)) Q))) : J ω m_M_declaration (d + 1) mc ms 0 0 177 [(0, .ref 94), (1, .int (zI x1)), (3, .int (zI x3)), (4, .int (zI x4))] [] σ Q := by
  refine j_aload_n d_M_declaration_177 0 rfl ?_
  refine j_getR 102 f_M_37 d_M_declaration_178 (tg_94 hE) (q_okE hE (by decide)) (rf_94_13 hE) (by decide) ?_
  refine j_aload_n d_M_declaration_181 0 rfl ?_
  refine zj_getI (z σ 94 17) f_M_246 d_M_declaration_182 (tg_94 hE) (q_okE hE (by decide)) (q_z _ _ _) ?_
  refine j_aload_n d_M_declaration_185 0 rfl ?_
  refine j_getR 99 f_M_23 d_M_declaration_186 (tg_94 hE) (q_okE hE (by decide)) (rf_94_6 hE) (by decide) ?_
  refine j_iload_n d_M_declaration_189 2 rfl ?_
  obtain ⟨c25, h⟩ := h
  refine zj_lald (q_l σ 99 x3.toNat) d_M_declaration_190 (tg_99 hE) (q_okE hE (by decide)) c25 (by decide) (rfl) ?_
  obtain ⟨c26, h⟩ := h
  refine zj_last d_M_declaration_191 (tg_102 hE) (q_okE hE (by decide)) c26 (by decide) ?_
  refine j_aload_n d_M_declaration_192 0 rfl ?_
  refine j_getR 103 f_M_40 d_M_declaration_193 (tg_94 (zt_E hE)) (q_okE (zt_E hE) (by decide)) (rf_94_14 (zt_E hE)) (by decide) ?_
  refine j_aload_n d_M_declaration_196 0 rfl ?_
  refine zj_getI (z σ 94 17) f_M_246 d_M_declaration_197 (tg_94 (zt_E hE)) (q_okE (zt_E hE) (by decide)) (Eq.trans (qt_i) (q_z _ _ _)) ?_
  refine j_iload_n d_M_declaration_200 1 rfl ?_
  obtain ⟨r27, h⟩ := h
  obtain ⟨h1, h2⟩ := h
  refine zj_if_eq 208 d_M_declaration_201 (by decide) r27 (fun k28 => ?_) (fun k28 => ?_)
  · have h := h1 k28
    refine j_iconst (v := zI 0) d_M_declaration_208 (by decide) ?_
    exact j_sel [0, 1, 3] rfl h
  · have h := h2 k28
    refine j_iconst (v := zI 1) d_M_declaration_204 (by decide) ?_
    refine j_goto 209 d_M_declaration_205 (by decide) ?_
    exact j_sel [0, 1, 3] rfl h
set_option maxHeartbeats 2000000 in
theorem b_M_declaration_176 {ω : q_W} {σ : q_H} {Q : q_R → q_H → Prop} {d mc ms : Nat}  {s : Nat} (hs : s = 110 ∨ s = 116) (rs0 : q_r σ 94 32 = s) (rs1 : q_r σ 94 33 = (s + 1)) (rs2 : q_r σ 94 34 = (s + 2)) (rs3 : q_r σ 94 35 = (s + 3)) (rs4 : q_r σ 94 36 = (s + 4)) (rs5 : q_r σ 94 37 = (s + 5)) (hE : q_E σ) (h : (Q (.inl none) σ)) : J ω m_M_declaration (d + 1) mc ms 0 0 176 [] [] σ Q := by
  exact j_vret d_M_declaration_176 rfl (Nat.zero_le _) (Nat.zero_le _) h
set_option maxHeartbeats 2000000 in
theorem b_M_declaration_209 {ω : q_W} {σ : q_H} {Q : q_R → q_H → Prop} {d mc ms : Nat} {x1 : Int} {x4 : Int} {y0 : Int} {y1 : Int} {s : Nat} (hs : s = 110 ∨ s = 116) (rs0 : q_r σ 94 32 = s) (rs1 : q_r σ 94 33 = (s + 1)) (rs2 : q_r σ 94 34 = (s + 2)) (rs3 : q_r σ 94 35 = (s + 3)) (rs4 : q_r σ 94 36 = (s + 4)) (rs5 : q_r σ 94 37 = (s + 5)) (hE : q_E σ) (h : (0 ≤ y1 ∧ y1 < 400) ∧ inR x1 ∧ q_imp (x1 = 0) ((J ω m_M_declaration (d + 1) mc ms 0 0 233 [(0, .ref 94), (1, .int (zI x1)), (4, .int (zI x4))] [.int (zI (z σ 94 19)), .int (zI (z σ 94 17)), .ref 104] (zs σ 103 y1.toNat y0) Q)) ∧ q_imp (x1 ≠ 0) ((J ω m_M_declaration (d + 1) mc ms 0 0 233 [(0, .ref 94), (1, .int (zI x1)), (4, .int (zI x4))] [.int (zI (z σ 94 18)), .int (zI (z σ 94 17)), .ref 104] (zs σ 103 y1.toNat y0) Q))) : J ω m_M_declaration (d + 1) mc ms 0 0 209 [(0, .ref 94), (1, .int (zI x1)), (4, .int (zI x4))] [.int (zI y0), .int (zI y1), .ref 103] σ Q := by
  obtain ⟨c29, h⟩ := h
  refine zj_iast d_M_declaration_209 (tg_103 hE) (q_okE hE (by decide)) c29 (by decide) ?_
  refine j_aload_n d_M_declaration_210 0 rfl ?_
  refine j_getR 104 f_M_43 d_M_declaration_211 (tg_94 (zs_E hE)) (q_okE (zs_E hE) (by decide)) (rf_94_15 (zs_E hE)) (by decide) ?_
  refine j_aload_n d_M_declaration_214 0 rfl ?_
  refine zj_getI (z σ 94 17) f_M_246 d_M_declaration_215 (tg_94 (zs_E hE)) (q_okE (zs_E hE) (by decide)) (Eq.trans (qs_o (by decide)) (q_z _ _ _)) ?_
  refine j_iload_n d_M_declaration_218 1 rfl ?_
  obtain ⟨r30, h⟩ := h
  obtain ⟨h1, h2⟩ := h
  refine zj_if_eq 229 d_M_declaration_219 (by decide) r30 (fun k31 => ?_) (fun k31 => ?_)
  · have h := h1 k31
    refine j_aload_n d_M_declaration_229 0 rfl ?_
    refine zj_getI (z σ 94 19) f_M_261 d_M_declaration_230 (tg_94 (zs_E hE)) (q_okE (zs_E hE) (by decide)) (Eq.trans (qs_o (by decide)) (q_z _ _ _)) ?_
    exact j_sel [0, 1, 2] rfl h
  · have h := h2 k31
    refine j_aload_n d_M_declaration_222 0 rfl ?_
    refine zj_getI (z σ 94 18) f_M_264 d_M_declaration_223 (tg_94 (zs_E hE)) (q_okE (zs_E hE) (by decide)) (Eq.trans (qs_o (by decide)) (q_z _ _ _)) ?_
    refine j_goto 233 d_M_declaration_226 (by decide) ?_
    exact j_sel [0, 1, 2] rfl h
set_option maxHeartbeats 2000000 in
theorem b_M_declaration_233 {ω : q_W} {σ : q_H} {Q : q_R → q_H → Prop} {d mc ms : Nat} {x1 : Int} {x4 : Int} {y0 : Int} {y1 : Int} {s : Nat} (hs : s = 110 ∨ s = 116) (rs0 : q_r σ 94 32 = s) (rs1 : q_r σ 94 33 = (s + 1)) (rs2 : q_r σ 94 34 = (s + 2)) (rs3 : q_r σ 94 35 = (s + 3)) (rs4 : q_r σ 94 36 = (s + 4)) (rs5 : q_r σ 94 37 = (s + 5)) (hE : q_E σ) (h : (0 ≤ y1 ∧ y1 < 400) ∧ (0 ≤ x4 ∧ x4 < 4098) ∧ (0 ≤ (z σ 94 17) ∧ (z σ 94 17) < 400) ∧ inR x1 ∧ q_imp (x1 = 0) ((0 ≤ (z σ 94 19) ∧ (z σ 94 19) < 16) ∧ (Q (.inl none) (zs (zs (zs (zs (zs σ 104 y1.toNat y0) 105 (z σ 94 17).toNat (z σ 98 x4.toNat)) 94 17 ((z σ 94 17) + 1)) 109 (z σ 94 19).toNat (z σ 98 x4.toNat)) 94 19 ((z σ 94 19) + 1)))) ∧ q_imp (x1 ≠ 0) ((0 ≤ (z σ 94 18) ∧ (z σ 94 18) < 16) ∧ (Q (.inl none) (zs (zs (zs (zs (zs (zs σ 104 y1.toNat y0) 105 (z σ 94 17).toNat (z σ 98 x4.toNat)) 94 17 ((z σ 94 17) + 1)) 94 20 ((z σ 94 20) + (z σ 98 x4.toNat))) 108 (z σ 94 18).toNat (z σ 98 x4.toNat)) 94 18 ((z σ 94 18) + 1))))) : J ω m_M_declaration (d + 1) mc ms 0 0 233 [(0, .ref 94), (1, .int (zI x1)), (4, .int (zI x4))] [.int (zI y0), .int (zI y1), .ref 104] σ Q := by
  obtain ⟨c32, h⟩ := h
  refine zj_iast d_M_declaration_233 (tg_104 hE) (q_okE hE (by decide)) c32 (by decide) ?_
  refine j_aload_n d_M_declaration_234 0 rfl ?_
  refine j_getR 105 f_M_46 d_M_declaration_235 (tg_94 (zs_E hE)) (q_okE (zs_E hE) (by decide)) (rf_94_16 (zs_E hE)) (by decide) ?_
  refine j_aload_n d_M_declaration_238 0 rfl ?_
  refine zj_getI (z σ 94 17) f_M_246 d_M_declaration_239 (tg_94 (zs_E hE)) (q_okE (zs_E hE) (by decide)) (Eq.trans (qs_o (by decide)) (q_z _ _ _)) ?_
  refine j_aload_n d_M_declaration_242 0 rfl ?_
  refine j_getR 98 f_M_20 d_M_declaration_243 (tg_94 (zs_E hE)) (q_okE (zs_E hE) (by decide)) (rf_94_5 (zs_E hE)) (by decide) ?_
  refine j_iload d_M_declaration_246 2 rfl ?_
  obtain ⟨c33, h⟩ := h
  refine zj_iald (z σ 98 x4.toNat) d_M_declaration_248 (tg_98 (zs_E hE)) (q_okE (zs_E hE) (by decide)) c33 (by decide) (Eq.trans (qs_o (by decide)) (q_z _ _ _)) ?_
  obtain ⟨c34, h⟩ := h
  refine zj_iast d_M_declaration_249 (tg_105 (zs_E hE)) (q_okE (zs_E hE) (by decide)) c34 (by decide) ?_
  refine j_aload_n d_M_declaration_250 0 rfl ?_
  refine j_dup d_M_declaration_251 rfl ?_
  refine zj_getI (z σ 94 17) f_M_246 d_M_declaration_252 (tg_94 (zs_E (zs_E hE))) (q_okE (zs_E (zs_E hE)) (by decide)) (Eq.trans (qs_o (by decide)) (Eq.trans (qs_o (by decide)) (q_z _ _ _))) ?_
  refine j_iconst (v := zI 1) d_M_declaration_255 (by decide) ?_
  refine zj_iadd ((z σ 94 17) + 1) (by omega) d_M_declaration_256 ?_
  refine zj_putI (g_M_246 _) d_M_declaration_257 (tg_94 (zs_E (zs_E hE))) (q_okE (zs_E (zs_E hE)) (by decide)) ?_
  refine j_iload_n d_M_declaration_260 1 rfl ?_
  obtain ⟨r35, h⟩ := h
  obtain ⟨h1, h2⟩ := h
  refine zj_if_eq 309 d_M_declaration_261 (by decide) r35 (fun k36 => ?_) (fun k36 => ?_)
  · have h := h1 k36
    refine j_aload_n d_M_declaration_309 0 rfl ?_
    refine j_getR 109 f_M_58 d_M_declaration_310 (tg_94 (zs_E (zs_E (zs_E hE)))) (q_okE (zs_E (zs_E (zs_E hE))) (by decide)) (rf_94_25 (zs_E (zs_E (zs_E hE)))) (by decide) ?_
    refine j_aload_n d_M_declaration_313 0 rfl ?_
    refine zj_getI (z σ 94 19) f_M_261 d_M_declaration_314 (tg_94 (zs_E (zs_E (zs_E hE)))) (q_okE (zs_E (zs_E (zs_E hE))) (by decide)) (Eq.trans (qs_k (by decide)) (Eq.trans (qs_o (by decide)) (Eq.trans (qs_o (by decide)) (q_z _ _ _)))) ?_
    refine j_aload_n d_M_declaration_317 0 rfl ?_
    refine j_getR 98 f_M_20 d_M_declaration_318 (tg_94 (zs_E (zs_E (zs_E hE)))) (q_okE (zs_E (zs_E (zs_E hE))) (by decide)) (rf_94_5 (zs_E (zs_E (zs_E hE)))) (by decide) ?_
    refine j_iload d_M_declaration_321 2 rfl ?_
    refine zj_iald (z σ 98 x4.toNat) d_M_declaration_323 (tg_98 (zs_E (zs_E (zs_E hE)))) (q_okE (zs_E (zs_E (zs_E hE))) (by decide)) c33 (by decide) (Eq.trans (qs_o (by decide)) (Eq.trans (qs_o (by decide)) (Eq.trans (qs_o (by decide)) (q_z _ _ _)))) ?_
    obtain ⟨c37, h⟩ := h
    refine zj_iast d_M_declaration_324 (tg_109 (zs_E (zs_E (zs_E hE)))) (q_okE (zs_E (zs_E (zs_E hE))) (by decide)) c37 (by decide) ?_
    refine j_aload_n d_M_declaration_325 0 rfl ?_
    refine j_dup d_M_declaration_326 rfl ?_
    refine zj_getI (z σ 94 19) f_M_261 d_M_declaration_327 (tg_94 (zs_E (zs_E (zs_E (zs_E hE))))) (q_okE (zs_E (zs_E (zs_E (zs_E hE)))) (by decide)) (Eq.trans (qs_o (by decide)) (Eq.trans (qs_k (by decide)) (Eq.trans (qs_o (by decide)) (Eq.trans (qs_o (by decide)) (q_z _ _ _))))) ?_
    refine j_iconst (v := zI 1) d_M_declaration_330 (by decide) ?_
    refine zj_iadd ((z σ 94 19) + 1) (by omega) d_M_declaration_331 ?_
    refine zj_putI (g_M_261 _) d_M_declaration_332 (tg_94 (zs_E (zs_E (zs_E (zs_E hE))))) (q_okE (zs_E (zs_E (zs_E (zs_E hE)))) (by decide)) ?_
    exact j_vret d_M_declaration_335 rfl (Nat.zero_le _) (Nat.zero_le _) h
  · have h := h2 k36
    refine j_aload_n d_M_declaration_264 0 rfl ?_
    refine j_dup d_M_declaration_265 rfl ?_
    refine zj_getI (z σ 94 20) f_M_258 d_M_declaration_266 (tg_94 (zs_E (zs_E (zs_E hE)))) (q_okE (zs_E (zs_E (zs_E hE))) (by decide)) (Eq.trans (qs_k (by decide)) (Eq.trans (qs_o (by decide)) (Eq.trans (qs_o (by decide)) (q_z _ _ _)))) ?_
    refine j_aload_n d_M_declaration_269 0 rfl ?_
    refine j_getR 98 f_M_20 d_M_declaration_270 (tg_94 (zs_E (zs_E (zs_E hE)))) (q_okE (zs_E (zs_E (zs_E hE))) (by decide)) (rf_94_5 (zs_E (zs_E (zs_E hE)))) (by decide) ?_
    refine j_iload d_M_declaration_273 2 rfl ?_
    refine zj_iald (z σ 98 x4.toNat) d_M_declaration_275 (tg_98 (zs_E (zs_E (zs_E hE)))) (q_okE (zs_E (zs_E (zs_E hE))) (by decide)) c33 (by decide) (Eq.trans (qs_o (by decide)) (Eq.trans (qs_o (by decide)) (Eq.trans (qs_o (by decide)) (q_z _ _ _)))) ?_
    refine zj_iadd ((z σ 94 20) + (z σ 98 x4.toNat)) rfl d_M_declaration_276 ?_
    refine zj_putI (g_M_258 _) d_M_declaration_277 (tg_94 (zs_E (zs_E (zs_E hE)))) (q_okE (zs_E (zs_E (zs_E hE))) (by decide)) ?_
    refine j_aload_n d_M_declaration_280 0 rfl ?_
    refine j_getR 108 f_M_55 d_M_declaration_281 (tg_94 (zs_E (zs_E (zs_E (zs_E hE))))) (q_okE (zs_E (zs_E (zs_E (zs_E hE)))) (by decide)) (rf_94_24 (zs_E (zs_E (zs_E (zs_E hE))))) (by decide) ?_
    refine j_aload_n d_M_declaration_284 0 rfl ?_
    refine zj_getI (z σ 94 18) f_M_264 d_M_declaration_285 (tg_94 (zs_E (zs_E (zs_E (zs_E hE))))) (q_okE (zs_E (zs_E (zs_E (zs_E hE)))) (by decide)) (Eq.trans (qs_k (by decide)) (Eq.trans (qs_k (by decide)) (Eq.trans (qs_o (by decide)) (Eq.trans (qs_o (by decide)) (q_z _ _ _))))) ?_
    refine j_aload_n d_M_declaration_288 0 rfl ?_
    refine j_getR 98 f_M_20 d_M_declaration_289 (tg_94 (zs_E (zs_E (zs_E (zs_E hE))))) (q_okE (zs_E (zs_E (zs_E (zs_E hE)))) (by decide)) (rf_94_5 (zs_E (zs_E (zs_E (zs_E hE))))) (by decide) ?_
    refine j_iload d_M_declaration_292 2 rfl ?_
    refine zj_iald (z σ 98 x4.toNat) d_M_declaration_294 (tg_98 (zs_E (zs_E (zs_E (zs_E hE))))) (q_okE (zs_E (zs_E (zs_E (zs_E hE)))) (by decide)) c33 (by decide) (Eq.trans (qs_o (by decide)) (Eq.trans (qs_o (by decide)) (Eq.trans (qs_o (by decide)) (Eq.trans (qs_o (by decide)) (q_z _ _ _))))) ?_
    obtain ⟨c38, h⟩ := h
    refine zj_iast d_M_declaration_295 (tg_108 (zs_E (zs_E (zs_E (zs_E hE))))) (q_okE (zs_E (zs_E (zs_E (zs_E hE)))) (by decide)) c38 (by decide) ?_
    refine j_aload_n d_M_declaration_296 0 rfl ?_
    refine j_dup d_M_declaration_297 rfl ?_
    refine zj_getI (z σ 94 18) f_M_264 d_M_declaration_298 (tg_94 (zs_E (zs_E (zs_E (zs_E (zs_E hE)))))) (q_okE (zs_E (zs_E (zs_E (zs_E (zs_E hE))))) (by decide)) (Eq.trans (qs_o (by decide)) (Eq.trans (qs_k (by decide)) (Eq.trans (qs_k (by decide)) (Eq.trans (qs_o (by decide)) (Eq.trans (qs_o (by decide)) (q_z _ _ _)))))) ?_
    refine j_iconst (v := zI 1) d_M_declaration_301 (by decide) ?_
    refine zj_iadd ((z σ 94 18) + 1) (by omega) d_M_declaration_302 ?_
    refine zj_putI (g_M_264 _) d_M_declaration_303 (tg_94 (zs_E (zs_E (zs_E (zs_E (zs_E hE)))))) (q_okE (zs_E (zs_E (zs_E (zs_E (zs_E hE))))) (by decide)) ?_
    refine j_goto 335 d_M_declaration_306 (by decide) ?_
    exact j_vret d_M_declaration_335 rfl (Nat.zero_le _) (Nat.zero_le _) h
set_option maxHeartbeats 2000000 in
theorem b_M_taken_0 {ω : q_W} {σ : q_H} {Q : q_R → q_H → Prop} {d mc ms : Nat}  {s : Nat} (hs : s = 110 ∨ s = 116) (rs0 : q_r σ 94 32 = s) (rs1 : q_r σ 94 33 = (s + 1)) (rs2 : q_r σ 94 34 = (s + 2)) (rs3 : q_r σ 94 35 = (s + 3)) (rs4 : q_r σ 94 36 = (s + 4)) (rs5 : q_r σ 94 37 = (s + 5)) (hE : q_E σ) (h : q_imp ((z σ 94 9) > 30) ((J ω m_M_bad d 0 0 0 0 0 [(0, .ref 94)] [] σ (q_kr (fun v τ => v = 100 ∧ J ω m_M_taken (d + 1) mc ms 0 0 33 [] [.ref 100] τ Q)))) ∧ q_imp ((z σ 94 9) ≤ 30) ((0 ≤ (z σ 94 8) ∧ (z σ 94 8) < 4098) ∧ q_imp ((z σ 96 (z σ 94 8).toNat) = 273) ((J ω m_M_bad d 0 0 0 0 0 [(0, .ref 94)] [] σ (q_kr (fun v τ => v = 100 ∧ J ω m_M_taken (d + 1) mc ms 0 0 33 [] [.ref 100] τ Q)))) ∧ q_imp ((z σ 96 (z σ 94 8).toNat) ≠ 273) (q_imp ((z σ 96 (z σ 94 8).toNat) ≠ 274) ((Q (.inl (some (.int (zI (z σ 94 8))))) (zs σ 94 8 ((z σ 94 8) + 1)))) ∧ q_imp ((z σ 96 (z σ 94 8).toNat) = 274) ((J ω m_M_bad d 0 0 0 0 0 [(0, .ref 94)] [] σ (q_kr (fun v τ => v = 100 ∧ J ω m_M_taken (d + 1) mc ms 0 0 33 [] [.ref 100] τ Q))))))) : J ω m_M_taken (d + 1) mc ms 0 0 0 [(0, .ref 94)] [] σ Q := by
  refine j_aload_n d_M_taken_0 0 rfl ?_
  refine zj_getI (z σ 94 9) f_M_224 d_M_taken_1 (tg_94 hE) (q_okE hE (by decide)) (q_z _ _ _) ?_
  refine j_bipush (v := zI 30) d_M_taken_4 (by decide) ?_
  obtain ⟨h1, h2⟩ := h
  refine zj_icmp_gt 29 d_M_taken_6 (by decide) (z_R _ _ _) ⟨by decide, by decide⟩ (fun k1 => ?_) (fun k1 => ?_)
  · have h := h1 k1
    refine j_aload_n d_M_taken_29 0 rfl ?_
    refine j_callV m_M_bad [] [] d 0 0 cV_M_230 d_M_taken_30 rfl rfl (tg_94 hE) (q_okE hE (by decide)) (Nat.le_of_ble_eq_true rfl) (Nat.le_refl _) (Nat.le_of_ble_eq_true rfl) (Nat.zero_le _) (Nat.zero_le _) h (fun v τ h => ?_) (fun x τ h => ?_)
    · obtain ⟨v, e1, e2, h⟩ := h; cases e1; subst e2; exact j_sel [] rfl h
    · obtain ⟨v, e1, e2, h⟩ := h; cases e1
  · have h := h2 k1
    refine j_aload_n d_M_taken_9 0 rfl ?_
    obtain ⟨c2, h⟩ := h
    refine j_callV m_M_kind [] [] 0 0 0 cV_M_227 d_M_taken_10 rfl rfl (tg_94 hE) (q_okE hE (by decide)) (Nat.le_of_ble_eq_true rfl) (Nat.succ_le_succ (Nat.zero_le _)) (Nat.le_of_ble_eq_true rfl) (Nat.zero_le _) (Nat.zero_le _) (c_M_kind2 hE c2 (q_z _ _ _) (q_z _ _ _)) (fun v τ h => ?_) (fun x τ h => absurd h.1 (by simp))
    obtain ⟨e1, e2⟩ := h; cases e1; rw [e2]
    refine j_sipush (v := zI 273) d_M_taken_13 (by decide) ?_
    obtain ⟨h1, h2⟩ := h
    refine zj_icmp_eq 29 d_M_taken_16 (by decide) (z_R _ _ _) ⟨by decide, by decide⟩ (fun k3 => ?_) (fun k3 => ?_)
    · have h := h1 k3
      refine j_aload_n d_M_taken_29 0 rfl ?_
      refine j_callV m_M_bad [] [] d 0 0 cV_M_230 d_M_taken_30 rfl rfl (tg_94 hE) (q_okE hE (by decide)) (Nat.le_of_ble_eq_true rfl) (Nat.le_refl _) (Nat.le_of_ble_eq_true rfl) (Nat.zero_le _) (Nat.zero_le _) h (fun v τ h => ?_) (fun x τ h => ?_)
      · obtain ⟨v, e1, e2, h⟩ := h; cases e1; subst e2; exact j_sel [] rfl h
      · obtain ⟨v, e1, e2, h⟩ := h; cases e1
    · have h := h2 k3
      refine j_aload_n d_M_taken_19 0 rfl ?_
      refine j_callV m_M_kind [] [] 0 0 0 cV_M_227 d_M_taken_20 rfl rfl (tg_94 hE) (q_okE hE (by decide)) (Nat.le_of_ble_eq_true rfl) (Nat.succ_le_succ (Nat.zero_le _)) (Nat.le_of_ble_eq_true rfl) (Nat.zero_le _) (Nat.zero_le _) (c_M_kind2 hE c2 (q_z _ _ _) (q_z _ _ _)) (fun v τ h => ?_) (fun x τ h => absurd h.1 (by simp))
      obtain ⟨e1, e2⟩ := h; cases e1; rw [e2]
      refine j_sipush (v := zI 274) d_M_taken_23 (by decide) ?_
      obtain ⟨h1, h2⟩ := h
      refine zj_icmp_ne 34 d_M_taken_26 (by decide) (z_R _ _ _) ⟨by decide, by decide⟩ (fun k4 => ?_) (fun k4 => ?_)
      · have h := h1 k4
        refine j_aload_n d_M_taken_34 0 rfl ?_
        refine j_dup d_M_taken_35 rfl ?_
        refine zj_getI (z σ 94 8) f_M_218 d_M_taken_36 (tg_94 hE) (q_okE hE (by decide)) (q_z _ _ _) ?_
        refine j_iconst (v := zI 1) d_M_taken_39 (by decide) ?_
        refine zj_iadd ((z σ 94 8) + 1) (by omega) d_M_taken_40 ?_
        refine zj_putI (g_M_218 _) d_M_taken_41 (tg_94 hE) (q_okE hE (by decide)) ?_
        refine j_aload_n d_M_taken_44 0 rfl ?_
        refine zj_getI ((z σ 94 8) + 1) f_M_218 d_M_taken_45 (tg_94 (zs_E hE)) (q_okE (zs_E hE) (by decide)) (qs_s) ?_
        refine j_iconst (v := zI 1) d_M_taken_48 (by decide) ?_
        refine zj_isub (z σ 94 8) (by omega) d_M_taken_49 ?_
        exact zj_iret d_M_taken_50 rfl (Nat.zero_le _) (Nat.zero_le _) h
      · have h := h2 k4
        refine j_aload_n d_M_taken_29 0 rfl ?_
        refine j_callV m_M_bad [] [] d 0 0 cV_M_230 d_M_taken_30 rfl rfl (tg_94 hE) (q_okE hE (by decide)) (Nat.le_of_ble_eq_true rfl) (Nat.le_refl _) (Nat.le_of_ble_eq_true rfl) (Nat.zero_le _) (Nat.zero_le _) h (fun v τ h => ?_) (fun x τ h => ?_)
        · obtain ⟨v, e1, e2, h⟩ := h; cases e1; subst e2; exact j_sel [] rfl h
        · obtain ⟨v, e1, e2, h⟩ := h; cases e1
set_option maxHeartbeats 2000000 in
theorem b_M_taken_33 {ω : q_W} {σ : q_H} {Q : q_R → q_H → Prop} {d mc ms : Nat}  {s : Nat} (hs : s = 110 ∨ s = 116) (rs0 : q_r σ 94 32 = s) (rs1 : q_r σ 94 33 = (s + 1)) (rs2 : q_r σ 94 34 = (s + 2)) (rs3 : q_r σ 94 35 = (s + 3)) (rs4 : q_r σ 94 36 = (s + 4)) (rs5 : q_r σ 94 37 = (s + 5)) (hE : q_E σ) (h : (Q (.inr 100) σ)) : J ω m_M_taken (d + 1) mc ms 0 0 33 [] [.ref 100] σ Q := by
  exact j_athrow d_M_taken_33 (jt_out rfl (Nat.zero_le _) (Nat.zero_le _) h)
set_option maxHeartbeats 2000000 in
theorem b_M_bad_0 {ω : q_W} {σ : q_H} {Q : q_R → q_H → Prop} {d mc ms : Nat}  {s : Nat} (hs : s = 110 ∨ s = 116) (rs0 : q_r σ 94 32 = s) (rs1 : q_r σ 94 33 = (s + 1)) (rs2 : q_r σ 94 34 = (s + 2)) (rs3 : q_r σ 94 35 = (s + 3)) (rs4 : q_r σ 94 36 = (s + 4)) (rs5 : q_r σ 94 37 = (s + 5)) (hE : q_E σ) (h : (0 ≤ (z σ 94 8) ∧ (z σ 94 8) < 4098) ∧ (Q (.inl (some (.ref 100))) (zs σ 94 10 (z σ 97 (z σ 94 8).toNat)))) : J ω m_M_bad d mc ms 0 0 0 [(0, .ref 94)] [] σ Q := by
  refine j_aload_n d_M_bad_0 0 rfl ?_
  refine j_aload_n d_M_bad_1 0 rfl ?_
  refine j_getR 97 f_M_17 d_M_bad_2 (tg_94 hE) (q_okE hE (by decide)) (rf_94_4 hE) (by decide) ?_
  refine j_aload_n d_M_bad_5 0 rfl ?_
  refine zj_getI (z σ 94 8) f_M_218 d_M_bad_6 (tg_94 hE) (q_okE hE (by decide)) (q_z _ _ _) ?_
  obtain ⟨c1, h⟩ := h
  refine zj_iald (z σ 97 (z σ 94 8).toNat) d_M_bad_9 (tg_97 hE) (q_okE hE (by decide)) c1 (by decide) (q_z _ _ _) ?_
  refine zj_putI (g_M_221 _) d_M_bad_10 (tg_94 hE) (q_okE hE (by decide)) ?_
  refine j_aload_n d_M_bad_13 0 rfl ?_
  refine j_getR 100 f_M_30 d_M_bad_14 (tg_94 (zs_E hE)) (q_okE (zs_E hE) (by decide)) (rf_94_11 (zs_E hE)) (by decide) ?_
  exact j_aret d_M_bad_17 rfl (Or.inl ⟨_, rfl⟩) (Nat.zero_le _) (Nat.zero_le _) h
set_option maxHeartbeats 2000000 in
theorem b_M_expect_0 {ω : q_W} {σ : q_H} {Q : q_R → q_H → Prop} {d mc ms : Nat} {x1 : Int} {s : Nat} (hs : s = 110 ∨ s = 116) (rs0 : q_r σ 94 32 = s) (rs1 : q_r σ 94 33 = (s + 1)) (rs2 : q_r σ 94 34 = (s + 2)) (rs3 : q_r σ 94 35 = (s + 3)) (rs4 : q_r σ 94 36 = (s + 4)) (rs5 : q_r σ 94 37 = (s + 5)) (hE : q_E σ) (h : (0 ≤ (z σ 94 8) ∧ (z σ 94 8) < 4098) ∧ inR x1 ∧ q_imp ((z σ 96 (z σ 94 8).toNat) = x1) ((J ω m_M_taken d 0 0 0 0 0 [(0, .ref 94)] [] σ (q_ox (q_ki (fun v τ => J ω m_M_expect (d + 1) mc ms 0 0 17 [] [.int (zI v)] τ Q)) (fun x τ => Q (.inr x) τ)))) ∧ q_imp ((z σ 96 (z σ 94 8).toNat) ≠ x1) ((J ω m_M_bad d 0 0 0 0 0 [(0, .ref 94)] [] σ (q_kr (fun v τ => v = 100 ∧ J ω m_M_expect (d + 1) mc ms 0 0 12 [] [.ref 100] τ Q))))) : J ω m_M_expect (d + 1) mc ms 0 0 0 [(0, .ref 94), (1, .int (zI x1))] [] σ Q := by
  refine j_aload_n d_M_expect_0 0 rfl ?_
  obtain ⟨c1, h⟩ := h
  refine j_callV m_M_kind [] [] 0 0 0 cV_M_227 d_M_expect_1 rfl rfl (tg_94 hE) (q_okE hE (by decide)) (Nat.le_of_ble_eq_true rfl) (Nat.succ_le_succ (Nat.zero_le _)) (Nat.le_of_ble_eq_true rfl) (Nat.zero_le _) (Nat.zero_le _) (c_M_kind2 hE c1 (q_z _ _ _) (q_z _ _ _)) (fun v τ h => ?_) (fun x τ h => absurd h.1 (by simp))
  obtain ⟨e1, e2⟩ := h; cases e1; rw [e2]
  refine j_iload_n d_M_expect_4 1 rfl ?_
  obtain ⟨r2, h⟩ := h
  obtain ⟨h1, h2⟩ := h
  refine zj_icmp_eq 13 d_M_expect_5 (by decide) (z_R _ _ _) r2 (fun k3 => ?_) (fun k3 => ?_)
  · have h := h1 k3
    refine j_aload_n d_M_expect_13 0 rfl ?_
    refine j_callV m_M_taken [] [] d 0 0 cV_M_234 d_M_expect_14 rfl rfl (tg_94 hE) (q_okE hE (by decide)) (Nat.le_of_ble_eq_true rfl) (Nat.le_refl _) (Nat.le_of_ble_eq_true rfl) (Nat.zero_le _) (Nat.zero_le _) h (fun v τ h => ?_) (fun x τ h => ?_)
    · rcases h with h | ⟨x, e1, h⟩
      · obtain ⟨v, hv, e1, h⟩ := h; cases e1; exact j_sel [] rfl h
      · cases e1
    · rcases h with h | ⟨y, e1, h⟩
      · obtain ⟨v, hv, e1, h⟩ := h; cases e1
      · cases e1; exact jt_out rfl (Nat.zero_le _) (Nat.zero_le _) h
  · have h := h2 k3
    refine j_aload_n d_M_expect_8 0 rfl ?_
    refine j_callV m_M_bad [] [] d 0 0 cV_M_230 d_M_expect_9 rfl rfl (tg_94 hE) (q_okE hE (by decide)) (Nat.le_of_ble_eq_true rfl) (Nat.le_refl _) (Nat.le_of_ble_eq_true rfl) (Nat.zero_le _) (Nat.zero_le _) h (fun v τ h => ?_) (fun x τ h => ?_)
    · obtain ⟨v, e1, e2, h⟩ := h; cases e1; subst e2; exact j_sel [] rfl h
    · obtain ⟨v, e1, e2, h⟩ := h; cases e1
set_option maxHeartbeats 2000000 in
theorem b_M_expect_17 {ω : q_W} {σ : q_H} {Q : q_R → q_H → Prop} {d mc ms : Nat} {y0 : Int} {s : Nat} (hs : s = 110 ∨ s = 116) (rs0 : q_r σ 94 32 = s) (rs1 : q_r σ 94 33 = (s + 1)) (rs2 : q_r σ 94 34 = (s + 2)) (rs3 : q_r σ 94 35 = (s + 3)) (rs4 : q_r σ 94 36 = (s + 4)) (rs5 : q_r σ 94 37 = (s + 5)) (hE : q_E σ) (h : (Q (.inl (some (.int (zI y0)))) σ)) : J ω m_M_expect (d + 1) mc ms 0 0 17 [] [.int (zI y0)] σ Q := by
  exact zj_iret d_M_expect_17 rfl (Nat.zero_le _) (Nat.zero_le _) h
set_option maxHeartbeats 2000000 in
theorem b_M_expect_12 {ω : q_W} {σ : q_H} {Q : q_R → q_H → Prop} {d mc ms : Nat}  {s : Nat} (hs : s = 110 ∨ s = 116) (rs0 : q_r σ 94 32 = s) (rs1 : q_r σ 94 33 = (s + 1)) (rs2 : q_r σ 94 34 = (s + 2)) (rs3 : q_r σ 94 35 = (s + 3)) (rs4 : q_r σ 94 36 = (s + 4)) (rs5 : q_r σ 94 37 = (s + 5)) (hE : q_E σ) (h : (Q (.inr 100) σ)) : J ω m_M_expect (d + 1) mc ms 0 0 12 [] [.ref 100] σ Q := by
  exact j_athrow d_M_expect_12 (jt_out rfl (Nat.zero_le _) (Nat.zero_le _) h)
set_option maxHeartbeats 2000000 in
theorem b_M_lookUp_0 {ω : q_W} {σ : q_H} {Q : q_R → q_H → Prop} {d mc ms : Nat} {x1 : Int64} {s : Nat} (hs : s = 110 ∨ s = 116) (rs0 : q_r σ 94 32 = s) (rs1 : q_r σ 94 33 = (s + 1)) (rs2 : q_r σ 94 34 = (s + 2)) (rs3 : q_r σ 94 35 = (s + 3)) (rs4 : q_r σ 94 36 = (s + 4)) (rs5 : q_r σ 94 37 = (s + 5)) (hE : q_E σ) (h : (J ω m_M_lookUp d mc ms 0 0 2 [(0, .ref 94), (1, .long x1), (3, .int (zI 0))] [] σ Q)) : J ω m_M_lookUp d mc ms 0 0 0 [(0, .ref 94), (1, .long x1)] [] σ Q := by
  refine j_iconst (v := zI 0) d_M_lookUp_0 (by decide) ?_
  refine j_istore_n (L' := [(3, .int (zI 0)), (0, .ref 94), (1, .long x1)]) d_M_lookUp_1 (by decide) rfl ?_
  exact j_sel [1, 2, 0] rfl h
set_option maxHeartbeats 2000000 in
theorem b_M_lookUp_2 {ω : q_W} {σ : q_H} {Q : q_R → q_H → Prop} {d mc ms : Nat} {x1 : Int64} {x3 : Int} {s : Nat} (hs : s = 110 ∨ s = 116) (rs0 : q_r σ 94 32 = s) (rs1 : q_r σ 94 33 = (s + 1)) (rs2 : q_r σ 94 34 = (s + 2)) (rs3 : q_r σ 94 35 = (s + 3)) (rs4 : q_r σ 94 36 = (s + 4)) (rs5 : q_r σ 94 37 = (s + 5)) (hE : q_E σ) (h : inR x3 ∧ q_imp (x3 ≥ (z σ 94 17)) ((Q (.inl (some (.int (zI (-1))))) σ)) ∧ q_imp (x3 < (z σ 94 17)) ((0 ≤ x3 ∧ x3 < 400) ∧ q_imp ((q_l σ 102 x3.toNat) ≠ x1) ((J ω m_M_lookUp d mc ms 0 0 2 [(0, .ref 94), (1, .long x1), (3, .int (zI (x3 + 1)))] [] σ Q)) ∧ q_imp ((q_l σ 102 x3.toNat) = x1) ((Q (.inl (some (.int (zI x3)))) σ)))) : J ω m_M_lookUp d mc ms 0 0 2 [(0, .ref 94), (1, .long x1), (3, .int (zI x3))] [] σ Q := by
  refine j_iload_n d_M_lookUp_2 2 rfl ?_
  refine j_aload_n d_M_lookUp_3 0 rfl ?_
  refine zj_getI (z σ 94 17) f_M_246 d_M_lookUp_4 (tg_94 hE) (q_okE hE (by decide)) (q_z _ _ _) ?_
  obtain ⟨r1, h⟩ := h
  obtain ⟨h1, h2⟩ := h
  refine zj_icmp_ge 29 d_M_lookUp_7 (by decide) r1 (z_R _ _ _) (fun k2 => ?_) (fun k2 => ?_)
  · have h := h1 k2
    refine j_iconst (v := zI (-1)) d_M_lookUp_29 (by decide) ?_
    exact zj_iret d_M_lookUp_30 rfl (Nat.zero_le _) (Nat.zero_le _) h
  · have h := h2 k2
    refine j_aload_n d_M_lookUp_10 0 rfl ?_
    refine j_getR 102 f_M_37 d_M_lookUp_11 (tg_94 hE) (q_okE hE (by decide)) (rf_94_13 hE) (by decide) ?_
    refine j_iload_n d_M_lookUp_14 2 rfl ?_
    obtain ⟨c3, h⟩ := h
    refine zj_lald (q_l σ 102 x3.toNat) d_M_lookUp_15 (tg_102 hE) (q_okE hE (by decide)) c3 (by decide) (rfl) ?_
    refine j_lload_n d_M_lookUp_16 1 rfl ?_
    obtain ⟨h1, h2⟩ := h
    refine zj_lcmp_ne 23 d_M_lookUp_17 d_M_lookUp_18 (by decide) (fun k4 => ?_) (fun k4 => ?_)
    · have h := h1 k4
      refine zj_iinc (L' := [(3, .int (zI (x3 + 1))), (0, .ref 94), (1, .long x1)]) (x3 + 1) d_M_lookUp_23 2 rfl (by omega) (by decide) rfl ?_
      refine j_goto 2 d_M_lookUp_26 (by decide) ?_
      exact j_sel [1, 2, 0] rfl h
    · have h := h2 k4
      refine j_iload_n d_M_lookUp_21 2 rfl ?_
      exact zj_iret d_M_lookUp_22 rfl (Nat.zero_le _) (Nat.zero_le _) h
set_option maxHeartbeats 2000000 in
theorem b_M_found_0 {ω : q_W} {σ : q_H} {Q : q_R → q_H → Prop} {d mc ms : Nat} {x1 : Int} {x2 : Int} {s : Nat} (hs : s = 110 ∨ s = 116) (rs0 : q_r σ 94 32 = s) (rs1 : q_r σ 94 33 = (s + 1)) (rs2 : q_r σ 94 34 = (s + 2)) (rs3 : q_r σ 94 35 = (s + 3)) (rs4 : q_r σ 94 36 = (s + 4)) (rs5 : q_r σ 94 37 = (s + 5)) (hE : q_E σ) (h : (0 ≤ x2 ∧ x2 < 4098) ∧ q_imp ((z σ 94 48) = 0) ((Q (.inl none) (zs (zs σ 94 48 x1) 94 49 (z σ 97 x2.toNat)))) ∧ q_imp ((z σ 94 48) ≠ 0) (q_imp ((z σ 94 49) > (z σ 97 x2.toNat)) ((Q (.inl none) (zs (zs σ 94 48 x1) 94 49 (z σ 97 x2.toNat)))) ∧ q_imp ((z σ 94 49) ≤ (z σ 97 x2.toNat)) ((Q (.inl none) σ)))) : J ω m_M_found d mc ms 0 0 0 [(0, .ref 94), (1, .int (zI x1)), (2, .int (zI x2))] [] σ Q := by
  refine j_aload_n d_M_found_0 0 rfl ?_
  refine j_getR 97 f_M_17 d_M_found_1 (tg_94 hE) (q_okE hE (by decide)) (rf_94_4 hE) (by decide) ?_
  refine j_iload_n d_M_found_4 2 rfl ?_
  obtain ⟨c1, h⟩ := h
  refine zj_iald (z σ 97 x2.toNat) d_M_found_5 (tg_97 hE) (q_okE hE (by decide)) c1 (by decide) (q_z _ _ _) ?_
  refine j_istore_n (L' := [(3, .int (zI (z σ 97 x2.toNat))), (0, .ref 94), (1, .int (zI x1)), (2, .int (zI x2))]) d_M_found_6 (by decide) rfl ?_
  refine j_aload_n d_M_found_7 1 rfl ?_
  refine zj_getI (z σ 94 48) f_M_237 d_M_found_8 (tg_94 hE) (q_okE hE (by decide)) (q_z _ _ _) ?_
  obtain ⟨h1, h2⟩ := h
  refine zj_if_eq 23 d_M_found_11 (by decide) (z_R _ _ _) (fun k2 => ?_) (fun k2 => ?_)
  · have h := h1 k2
    refine j_aload_n d_M_found_23 1 rfl ?_
    refine j_iload_n d_M_found_24 2 rfl ?_
    refine zj_putI (g_M_237 _) d_M_found_25 (tg_94 hE) (q_okE hE (by decide)) ?_
    refine j_aload_n d_M_found_28 1 rfl ?_
    refine j_iload_n d_M_found_29 0 rfl ?_
    refine zj_putI (g_M_240 _) d_M_found_30 (tg_94 (zs_E hE)) (q_okE (zs_E hE) (by decide)) ?_
    exact j_vret d_M_found_33 rfl (Nat.zero_le _) (Nat.zero_le _) h
  · have h := h2 k2
    refine j_aload_n d_M_found_14 1 rfl ?_
    refine zj_getI (z σ 94 49) f_M_240 d_M_found_15 (tg_94 hE) (q_okE hE (by decide)) (q_z _ _ _) ?_
    refine j_iload_n d_M_found_18 0 rfl ?_
    obtain ⟨h1, h2⟩ := h
    refine zj_icmp_gt 23 d_M_found_19 (by decide) (z_R _ _ _) (z_R _ _ _) (fun k3 => ?_) (fun k3 => ?_)
    · have h := h1 k3
      refine j_aload_n d_M_found_23 1 rfl ?_
      refine j_iload_n d_M_found_24 2 rfl ?_
      refine zj_putI (g_M_237 _) d_M_found_25 (tg_94 hE) (q_okE hE (by decide)) ?_
      refine j_aload_n d_M_found_28 1 rfl ?_
      refine j_iload_n d_M_found_29 0 rfl ?_
      refine zj_putI (g_M_240 _) d_M_found_30 (tg_94 (zs_E hE)) (q_okE (zs_E hE) (by decide)) ?_
      exact j_vret d_M_found_33 rfl (Nat.zero_le _) (Nat.zero_le _) h
    · have h := h2 k3
      exact j_vret d_M_found_22 rfl (Nat.zero_le _) (Nat.zero_le _) h
theorem o_M_statement_4 {x : Int} (cs123 : ¬ x = 123) (cs258 : ¬ x = 258) (cs260 : ¬ x = 260) (cs261 : ¬ x = 261) (cs262 : ¬ x = 262) (cs263 : ¬ x = 263) : ¬ 123 = x ∧ ¬ 258 = x ∧ ¬ 260 = x ∧ ¬ 261 = x ∧ ¬ 262 = x ∧ ¬ 263 = x := by omega
set_option maxHeartbeats 2000000 in
theorem b_M_statement_0 {ω : q_W} {σ : q_H} {Q : q_R → q_H → Prop} {d mc ms : Nat}  {s : Nat} (hs : s = 110 ∨ s = 116) (rs0 : q_r σ 94 32 = s) (rs1 : q_r σ 94 33 = (s + 1)) (rs2 : q_r σ 94 34 = (s + 2)) (rs3 : q_r σ 94 35 = (s + 3)) (rs4 : q_r σ 94 36 = (s + 4)) (rs5 : q_r σ 94 37 = (s + 5)) (hE : q_E σ) (h : (0 ≤ (z σ 94 8) ∧ (z σ 94 8) < 4098) ∧ q_imp ((z σ 96 (z σ 94 8).toNat) = 123) ((J ω m_M_taken d 0 0 0 0 0 [(0, .ref 94)] [] σ (q_ox (q_ki (fun v τ => J ω m_M_statement (d + 1) mc ms 0 0 400 [(0, .ref 94)] [.int (zI v)] τ Q)) (fun x τ => Q (.inr x) τ)))) ∧ q_imp ((z σ 96 (z σ 94 8).toNat) = 258) ((J ω m_M_taken d 0 0 0 0 0 [(0, .ref 94)] [] σ (q_ox (q_ki (fun v τ => J ω m_M_statement (d + 1) mc ms 0 0 176 [(0, .ref 94)] [.int (zI v)] τ Q)) (fun x τ => Q (.inr x) τ)))) ∧ q_imp ((z σ 96 (z σ 94 8).toNat) = 260) ((J ω m_M_taken d 0 0 0 0 0 [(0, .ref 94)] [] σ (q_ox (q_ki (fun v τ => J ω m_M_statement (d + 1) mc ms 0 0 267 [(0, .ref 94)] [.int (zI v)] τ Q)) (fun x τ => Q (.inr x) τ)))) ∧ q_imp ((z σ 96 (z σ 94 8).toNat) = 261 ∨ (z σ 96 (z σ 94 8).toNat) = 262) ((J ω m_M_taken d 0 0 0 0 0 [(0, .ref 94)] [] σ (q_ox (q_ki (fun v τ => J ω m_M_statement (d + 1) mc ms 0 0 350 [(0, .ref 94), (1, .int (zI (z σ 96 (z σ 94 8).toNat)))] [.int (zI v)] τ Q)) (fun x τ => Q (.inr x) τ)))) ∧ q_imp ((z σ 96 (z σ 94 8).toNat) = 263) ((J ω m_M_taken d 0 0 0 0 0 [(0, .ref 94)] [] σ (q_ox (q_ki (fun v τ => J ω m_M_statement (d + 1) mc ms 0 0 68 [(0, .ref 94)] [.int (zI v)] τ Q)) (fun x τ => Q (.inr x) τ)))) ∧ q_imp ((z σ 96 (z σ 94 8).toNat) ≠ 123 ∧ (z σ 96 (z σ 94 8).toNat) ≠ 258 ∧ (z σ 96 (z σ 94 8).toNat) ≠ 260 ∧ (z σ 96 (z σ 94 8).toNat) ≠ 261 ∧ (z σ 96 (z σ 94 8).toNat) ≠ 262 ∧ (z σ 96 (z σ 94 8).toNat) ≠ 263) ((J ω m_M_bad d 0 0 0 0 0 [(0, .ref 94)] [] σ (q_kr (fun v τ => v = 100 ∧ J ω m_M_statement (d + 1) mc ms 0 0 484 [] [.ref 100] τ Q))))) : J ω m_M_statement (d + 1) mc ms 0 0 0 [(0, .ref 94)] [] σ Q := by
  refine j_aload_n d_M_statement_0 0 rfl ?_
  obtain ⟨c1, h⟩ := h
  refine j_callV m_M_kind [] [] 0 0 0 cV_M_227 d_M_statement_1 rfl rfl (tg_94 hE) (q_okE hE (by decide)) (Nat.le_of_ble_eq_true rfl) (Nat.succ_le_succ (Nat.zero_le _)) (Nat.le_of_ble_eq_true rfl) (Nat.zero_le _) (Nat.zero_le _) (c_M_kind2 hE c1 (q_z _ _ _) (q_z _ _ _)) (fun v τ h => ?_) (fun x τ h => absurd h.1 (by simp))
  obtain ⟨e1, e2⟩ := h; cases e1; rw [e2]
  obtain ⟨g396, g172, g263, g341, g64, gD⟩ := h
  have jg396 : q_imp ((z σ 96 (z σ 94 8).toNat) = 123) (J ω m_M_statement (d + 1) mc ms 0 0 396 [(0, .ref 94)] [] σ Q) := by
    intro c
    have h := g396 c
    refine j_aload_n d_M_statement_396 0 rfl ?_
    refine j_callV m_M_taken [] [] d 0 0 cV_M_234 d_M_statement_397 rfl rfl (tg_94 hE) (q_okE hE (by decide)) (Nat.le_of_ble_eq_true rfl) (Nat.le_refl _) (Nat.le_of_ble_eq_true rfl) (Nat.zero_le _) (Nat.zero_le _) h (fun v τ h => ?_) (fun x τ h => ?_)
    · rcases h with h | ⟨x, e1, h⟩
      · obtain ⟨v, hv, e1, h⟩ := h; cases e1; exact j_sel [0] rfl h
      · cases e1
    · rcases h with h | ⟨y, e1, h⟩
      · obtain ⟨v, hv, e1, h⟩ := h; cases e1
      · cases e1; exact jt_out rfl (Nat.zero_le _) (Nat.zero_le _) h
  have jg172 : q_imp ((z σ 96 (z σ 94 8).toNat) = 258) (J ω m_M_statement (d + 1) mc ms 0 0 172 [(0, .ref 94)] [] σ Q) := by
    intro c
    have h := g172 c
    refine j_aload_n d_M_statement_172 0 rfl ?_
    refine j_callV m_M_taken [] [] d 0 0 cV_M_234 d_M_statement_173 rfl rfl (tg_94 hE) (q_okE hE (by decide)) (Nat.le_of_ble_eq_true rfl) (Nat.le_refl _) (Nat.le_of_ble_eq_true rfl) (Nat.zero_le _) (Nat.zero_le _) h (fun v τ h => ?_) (fun x τ h => ?_)
    · rcases h with h | ⟨x, e1, h⟩
      · obtain ⟨v, hv, e1, h⟩ := h; cases e1; exact j_sel [0] rfl h
      · cases e1
    · rcases h with h | ⟨y, e1, h⟩
      · obtain ⟨v, hv, e1, h⟩ := h; cases e1
      · cases e1; exact jt_out rfl (Nat.zero_le _) (Nat.zero_le _) h
  have jg263 : q_imp ((z σ 96 (z σ 94 8).toNat) = 260) (J ω m_M_statement (d + 1) mc ms 0 0 263 [(0, .ref 94)] [] σ Q) := by
    intro c
    have h := g263 c
    refine j_aload_n d_M_statement_263 0 rfl ?_
    refine j_callV m_M_taken [] [] d 0 0 cV_M_234 d_M_statement_264 rfl rfl (tg_94 hE) (q_okE hE (by decide)) (Nat.le_of_ble_eq_true rfl) (Nat.le_refl _) (Nat.le_of_ble_eq_true rfl) (Nat.zero_le _) (Nat.zero_le _) h (fun v τ h => ?_) (fun x τ h => ?_)
    · rcases h with h | ⟨x, e1, h⟩
      · obtain ⟨v, hv, e1, h⟩ := h; cases e1; exact j_sel [0] rfl h
      · cases e1
    · rcases h with h | ⟨y, e1, h⟩
      · obtain ⟨v, hv, e1, h⟩ := h; cases e1
      · cases e1; exact jt_out rfl (Nat.zero_le _) (Nat.zero_le _) h
  have jg341 : q_imp ((z σ 96 (z σ 94 8).toNat) = 261 ∨ (z σ 96 (z σ 94 8).toNat) = 262) (J ω m_M_statement (d + 1) mc ms 0 0 341 [(0, .ref 94)] [] σ Q) := by
    intro c
    have h := g341 c
    refine j_aload_n d_M_statement_341 0 rfl ?_
    refine j_callV m_M_kind [] [] 0 0 0 cV_M_227 d_M_statement_342 rfl rfl (tg_94 hE) (q_okE hE (by decide)) (Nat.le_of_ble_eq_true rfl) (Nat.succ_le_succ (Nat.zero_le _)) (Nat.le_of_ble_eq_true rfl) (Nat.zero_le _) (Nat.zero_le _) (c_M_kind2 hE c1 (q_z _ _ _) (q_z _ _ _)) (fun v τ h => ?_) (fun x τ h => absurd h.1 (by simp))
    obtain ⟨e1, e2⟩ := h; cases e1; rw [e2]
    refine j_istore_n (L' := [(1, .int (zI (z σ 96 (z σ 94 8).toNat))), (0, .ref 94)]) d_M_statement_345 (by decide) rfl ?_
    refine j_aload_n d_M_statement_346 1 rfl ?_
    refine j_callV m_M_taken [] [] d 0 0 cV_M_234 d_M_statement_347 rfl rfl (tg_94 hE) (q_okE hE (by decide)) (Nat.le_of_ble_eq_true rfl) (Nat.le_refl _) (Nat.le_of_ble_eq_true rfl) (Nat.zero_le _) (Nat.zero_le _) h (fun v τ h => ?_) (fun x τ h => ?_)
    · rcases h with h | ⟨x, e1, h⟩
      · obtain ⟨v, hv, e1, h⟩ := h; cases e1; exact j_sel [1, 0] rfl h
      · cases e1
    · rcases h with h | ⟨y, e1, h⟩
      · obtain ⟨v, hv, e1, h⟩ := h; cases e1
      · cases e1; exact jt_out rfl (Nat.zero_le _) (Nat.zero_le _) h
  have jg64 : q_imp ((z σ 96 (z σ 94 8).toNat) = 263) (J ω m_M_statement (d + 1) mc ms 0 0 64 [(0, .ref 94)] [] σ Q) := by
    intro c
    have h := g64 c
    refine j_aload_n d_M_statement_64 0 rfl ?_
    refine j_callV m_M_taken [] [] d 0 0 cV_M_234 d_M_statement_65 rfl rfl (tg_94 hE) (q_okE hE (by decide)) (Nat.le_of_ble_eq_true rfl) (Nat.le_refl _) (Nat.le_of_ble_eq_true rfl) (Nat.zero_le _) (Nat.zero_le _) h (fun v τ h => ?_) (fun x τ h => ?_)
    · rcases h with h | ⟨x, e1, h⟩
      · obtain ⟨v, hv, e1, h⟩ := h; cases e1; exact j_sel [0] rfl h
      · cases e1
    · rcases h with h | ⟨y, e1, h⟩
      · obtain ⟨v, hv, e1, h⟩ := h; cases e1
      · cases e1; exact jt_out rfl (Nat.zero_le _) (Nat.zero_le _) h
  have jgD : q_imp ((z σ 96 (z σ 94 8).toNat) ≠ 123 ∧ (z σ 96 (z σ 94 8).toNat) ≠ 258 ∧ (z σ 96 (z σ 94 8).toNat) ≠ 260 ∧ (z σ 96 (z σ 94 8).toNat) ≠ 261 ∧ (z σ 96 (z σ 94 8).toNat) ≠ 262 ∧ (z σ 96 (z σ 94 8).toNat) ≠ 263) (J ω m_M_statement (d + 1) mc ms 0 0 480 [(0, .ref 94)] [] σ Q) := by
    intro c
    have h := gD c
    refine j_aload_n d_M_statement_480 0 rfl ?_
    refine j_callV m_M_bad [] [] d 0 0 cV_M_230 d_M_statement_481 rfl rfl (tg_94 hE) (q_okE hE (by decide)) (Nat.le_of_ble_eq_true rfl) (Nat.le_refl _) (Nat.le_of_ble_eq_true rfl) (Nat.zero_le _) (Nat.zero_le _) h (fun v τ h => ?_) (fun x τ h => ?_)
    · obtain ⟨v, e1, e2, h⟩ := h; cases e1; subst e2; exact j_sel [] rfl h
    · obtain ⟨v, e1, e2, h⟩ := h; cases e1
  by_cases cs123 : (z σ 96 (z σ 94 8).toNat) = 123
  · exact j_topE (v := zI 123) (by rw [cs123]) (j_lookup 396 d_M_statement_4 (by decide) (by rfl) (by decide) (jg396 cs123))
  by_cases cs258 : (z σ 96 (z σ 94 8).toNat) = 258
  · exact j_topE (v := zI 258) (by rw [cs258]) (j_lookup 172 d_M_statement_4 (by decide) (by rfl) (by decide) (jg172 cs258))
  by_cases cs260 : (z σ 96 (z σ 94 8).toNat) = 260
  · exact j_topE (v := zI 260) (by rw [cs260]) (j_lookup 263 d_M_statement_4 (by decide) (by rfl) (by decide) (jg263 cs260))
  by_cases cs261 : (z σ 96 (z σ 94 8).toNat) = 261
  · exact j_topE (v := zI 261) (by rw [cs261]) (j_lookup 341 d_M_statement_4 (by decide) (by rfl) (by decide) (jg341 (Or.inl cs261)))
  by_cases cs262 : (z σ 96 (z σ 94 8).toNat) = 262
  · exact j_topE (v := zI 262) (by rw [cs262]) (j_lookup 341 d_M_statement_4 (by decide) (by rfl) (by decide) (jg341 (Or.inr (cs262))))
  by_cases cs263 : (z σ 96 (z σ 94 8).toNat) = 263
  · exact j_topE (v := zI 263) (by rw [cs263]) (j_lookup 64 d_M_statement_4 (by decide) (by rfl) (by decide) (jg64 cs263))
  exact zj_lookd 480 d_M_statement_4 (by decide) (z_R _ _ _) (by simp; exact o_M_statement_4 cs123 cs258 cs260 cs261 cs262 cs263) (by decide) (jgD ⟨cs123, cs258, cs260, cs261, cs262, cs263⟩)
set_option maxHeartbeats 2000000 in
theorem b_M_statement_400 {ω : q_W} {σ : q_H} {Q : q_R → q_H → Prop} {d mc ms : Nat} {y0 : Int} {s : Nat} (hs : s = 110 ∨ s = 116) (rs0 : q_r σ 94 32 = s) (rs1 : q_r σ 94 33 = (s + 1)) (rs2 : q_r σ 94 34 = (s + 2)) (rs3 : q_r σ 94 35 = (s + 3)) (rs4 : q_r σ 94 36 = (s + 4)) (rs5 : q_r σ 94 37 = (s + 5)) (hE : q_E σ) (h : (J ω m_M_statement (d + 1) mc ms 0 0 415 [(0, .ref 94), (2, .int (zI (-1))), (3, .int (zI (-1)))] [] (zs σ 94 9 ((z σ 94 9) + 1)) Q)) : J ω m_M_statement (d + 1) mc ms 0 0 400 [(0, .ref 94)] [.int (zI y0)] σ Q := by
  refine j_istore_n (L' := [(1, .int (zI y0)), (0, .ref 94)]) d_M_statement_400 (by decide) rfl ?_
  refine j_aload_n d_M_statement_401 1 rfl ?_
  refine j_dup d_M_statement_402 rfl ?_
  refine zj_getI (z σ 94 9) f_M_224 d_M_statement_403 (tg_94 hE) (q_okE hE (by decide)) (q_z _ _ _) ?_
  refine j_iconst (v := zI 1) d_M_statement_406 (by decide) ?_
  refine zj_iadd ((z σ 94 9) + 1) (by omega) d_M_statement_407 ?_
  refine zj_putI (g_M_224 _) d_M_statement_408 (tg_94 hE) (q_okE hE (by decide)) ?_
  refine j_iconst (v := zI (-1)) d_M_statement_411 (by decide) ?_
  refine j_istore_n (L' := [(2, .int (zI (-1))), (1, .int (zI y0)), (0, .ref 94)]) d_M_statement_412 (by decide) rfl ?_
  refine j_iconst (v := zI (-1)) d_M_statement_413 (by decide) ?_
  refine j_istore_n (L' := [(3, .int (zI (-1))), (2, .int (zI (-1))), (1, .int (zI y0)), (0, .ref 94)]) d_M_statement_414 (by decide) rfl ?_
  exact j_sel [3, 1, 0] rfl h
set_option maxHeartbeats 2000000 in
theorem b_M_statement_176 {ω : q_W} {σ : q_H} {Q : q_R → q_H → Prop} {d mc ms : Nat} {y0 : Int} {s : Nat} (hs : s = 110 ∨ s = 116) (rs0 : q_r σ 94 32 = s) (rs1 : q_r σ 94 33 = (s + 1)) (rs2 : q_r σ 94 34 = (s + 2)) (rs3 : q_r σ 94 35 = (s + 3)) (rs4 : q_r σ 94 36 = (s + 4)) (rs5 : q_r σ 94 37 = (s + 5)) (hE : q_E σ) (h : (J ω m_M_inBrackets d 0 0 0 0 0 [(0, .ref 94)] [] σ (q_ox (q_ki (fun v τ => J ω m_M_statement (d + 1) mc ms 0 0 181 [(0, .ref 94)] [.int (zI v)] τ Q)) (fun x τ => Q (.inr x) τ)))) : J ω m_M_statement (d + 1) mc ms 0 0 176 [(0, .ref 94)] [.int (zI y0)] σ Q := by
  refine j_istore_n (L' := [(1, .int (zI y0)), (0, .ref 94)]) d_M_statement_176 (by decide) rfl ?_
  refine j_aload_n d_M_statement_177 1 rfl ?_
  refine j_callV m_M_inBrackets [] [] d 0 0 cV_M_274 d_M_statement_178 rfl rfl (tg_94 hE) (q_okE hE (by decide)) (Nat.le_of_ble_eq_true rfl) (Nat.le_refl _) (Nat.le_of_ble_eq_true rfl) (Nat.zero_le _) (Nat.zero_le _) h (fun v τ h => ?_) (fun x τ h => ?_)
  · rcases h with h | ⟨x, e1, h⟩
    · obtain ⟨v, hv, e1, h⟩ := h; cases e1; exact j_sel [1] rfl h
    · cases e1
  · rcases h with h | ⟨y, e1, h⟩
    · obtain ⟨v, hv, e1, h⟩ := h; cases e1
    · cases e1; exact jt_out rfl (Nat.zero_le _) (Nat.zero_le _) h
set_option maxHeartbeats 2000000 in
theorem b_M_statement_267 {ω : q_W} {σ : q_H} {Q : q_R → q_H → Prop} {d mc ms : Nat} {y0 : Int} {s : Nat} (hs : s = 110 ∨ s = 116) (rs0 : q_r σ 94 32 = s) (rs1 : q_r σ 94 33 = (s + 1)) (rs2 : q_r σ 94 34 = (s + 2)) (rs3 : q_r σ 94 35 = (s + 3)) (rs4 : q_r σ 94 36 = (s + 4)) (rs5 : q_r σ 94 37 = (s + 5)) (hE : q_E σ) (h : (J ω m_M_expect d 0 0 0 0 0 [(0, .ref 94), (1, .int (zI 264))] [] σ (q_ox (q_ki (fun v τ => J ω m_M_statement (d + 1) mc ms 0 0 275 [(0, .ref 94)] [.int (zI v)] τ Q)) (fun x τ => Q (.inr x) τ)))) : J ω m_M_statement (d + 1) mc ms 0 0 267 [(0, .ref 94)] [.int (zI y0)] σ Q := by
  refine j_istore_n (L' := [(1, .int (zI y0)), (0, .ref 94)]) d_M_statement_267 (by decide) rfl ?_
  refine j_aload_n d_M_statement_268 1 rfl ?_
  refine j_sipush (v := zI 264) d_M_statement_269 (by decide) ?_
  refine j_callV m_M_expect [.int (zI 264)] [] d 0 0 cV_M_249 d_M_statement_272 rfl rfl (tg_94 hE) (q_okE hE (by decide)) (Nat.le_of_ble_eq_true rfl) (Nat.le_refl _) (Nat.le_of_ble_eq_true rfl) (Nat.zero_le _) (Nat.zero_le _) h (fun v τ h => ?_) (fun x τ h => ?_)
  · rcases h with h | ⟨x, e1, h⟩
    · obtain ⟨v, hv, e1, h⟩ := h; cases e1; exact j_sel [1] rfl h
    · cases e1
  · rcases h with h | ⟨y, e1, h⟩
    · obtain ⟨v, hv, e1, h⟩ := h; cases e1
    · cases e1; exact jt_out rfl (Nat.zero_le _) (Nat.zero_le _) h
set_option maxHeartbeats 2000000 in
theorem b_M_statement_350 {ω : q_W} {σ : q_H} {Q : q_R → q_H → Prop} {d mc ms : Nat} {x1 : Int} {y0 : Int} {s : Nat} (hs : s = 110 ∨ s = 116) (rs0 : q_r σ 94 32 = s) (rs1 : q_r σ 94 33 = (s + 1)) (rs2 : q_r σ 94 34 = (s + 2)) (rs3 : q_r σ 94 35 = (s + 3)) (rs4 : q_r σ 94 36 = (s + 4)) (rs5 : q_r σ 94 37 = (s + 5)) (hE : q_E σ) (h : inR x1 ∧ q_imp (x1 ≠ 261) ((J ω m_M_statement (d + 1) mc ms 0 0 373 [(0, .ref 94), (1, .int (zI x1)), (3, .int (zI (z σ 94 21)))] [] σ Q)) ∧ q_imp (x1 = 261) ((J ω m_M_statement (d + 1) mc ms 0 0 373 [(0, .ref 94), (1, .int (zI x1)), (3, .int (zI (z σ 94 21)))] [] (zs σ 94 21 ((z σ 94 21) + 1)) Q))) : J ω m_M_statement (d + 1) mc ms 0 0 350 [(0, .ref 94), (1, .int (zI x1))] [.int (zI y0)] σ Q := by
  refine j_istore_n (L' := [(2, .int (zI y0)), (0, .ref 94), (1, .int (zI x1))]) d_M_statement_350 (by decide) rfl ?_
  refine j_aload_n d_M_statement_351 1 rfl ?_
  refine zj_getI (z σ 94 21) f_M_280 d_M_statement_352 (tg_94 hE) (q_okE hE (by decide)) (q_z _ _ _) ?_
  refine j_istore_n (L' := [(3, .int (zI (z σ 94 21))), (2, .int (zI y0)), (0, .ref 94), (1, .int (zI x1))]) d_M_statement_355 (by decide) rfl ?_
  refine j_iload_n d_M_statement_356 3 rfl ?_
  refine j_sipush (v := zI 261) d_M_statement_357 (by decide) ?_
  obtain ⟨r2, h⟩ := h
  obtain ⟨h1, h2⟩ := h
  refine zj_icmp_ne 373 d_M_statement_360 (by decide) r2 ⟨by decide, by decide⟩ (fun k3 => ?_) (fun k3 => ?_)
  · have h := h1 k3
    exact j_sel [2, 3, 0] rfl h
  · have h := h2 k3
    refine j_aload_n d_M_statement_363 2 rfl ?_
    refine j_dup d_M_statement_364 rfl ?_
    refine zj_getI (z σ 94 21) f_M_280 d_M_statement_365 (tg_94 hE) (q_okE hE (by decide)) (q_z _ _ _) ?_
    refine j_iconst (v := zI 1) d_M_statement_368 (by decide) ?_
    refine zj_iadd ((z σ 94 21) + 1) (by omega) d_M_statement_369 ?_
    refine zj_putI (g_M_280 _) d_M_statement_370 (tg_94 hE) (q_okE hE (by decide)) ?_
    exact j_sel [2, 3, 0] rfl h
set_option maxHeartbeats 2000000 in
theorem b_M_statement_68 {ω : q_W} {σ : q_H} {Q : q_R → q_H → Prop} {d mc ms : Nat} {y0 : Int} {s : Nat} (hs : s = 110 ∨ s = 116) (rs0 : q_r σ 94 32 = s) (rs1 : q_r σ 94 33 = (s + 1)) (rs2 : q_r σ 94 34 = (s + 2)) (rs3 : q_r σ 94 35 = (s + 3)) (rs4 : q_r σ 94 36 = (s + 4)) (rs5 : q_r σ 94 37 = (s + 5)) (hE : q_E σ) (h : (J ω m_M_expect d 0 0 0 0 0 [(0, .ref 94), (1, .int (zI 61))] [] σ (q_ox (q_ki (fun v τ => J ω m_M_statement (d + 1) mc ms 0 0 75 [(0, .ref 94), (1, .int (zI y0))] [.int (zI v)] τ Q)) (fun x τ => Q (.inr x) τ)))) : J ω m_M_statement (d + 1) mc ms 0 0 68 [(0, .ref 94)] [.int (zI y0)] σ Q := by
  refine j_istore_n (L' := [(1, .int (zI y0)), (0, .ref 94)]) d_M_statement_68 (by decide) rfl ?_
  refine j_aload_n d_M_statement_69 1 rfl ?_
  refine j_bipush (v := zI 61) d_M_statement_70 (by decide) ?_
  refine j_callV m_M_expect [.int (zI 61)] [] d 0 0 cV_M_249 d_M_statement_72 rfl rfl (tg_94 hE) (q_okE hE (by decide)) (Nat.le_of_ble_eq_true rfl) (Nat.le_refl _) (Nat.le_of_ble_eq_true rfl) (Nat.zero_le _) (Nat.zero_le _) h (fun v τ h => ?_) (fun x τ h => ?_)
  · rcases h with h | ⟨x, e1, h⟩
    · obtain ⟨v, hv, e1, h⟩ := h; cases e1; exact j_sel [1, 0] rfl h
    · cases e1
  · rcases h with h | ⟨y, e1, h⟩
    · obtain ⟨v, hv, e1, h⟩ := h; cases e1
    · cases e1; exact jt_out rfl (Nat.zero_le _) (Nat.zero_le _) h
set_option maxHeartbeats 2000000 in
theorem b_M_statement_484 {ω : q_W} {σ : q_H} {Q : q_R → q_H → Prop} {d mc ms : Nat}  {s : Nat} (hs : s = 110 ∨ s = 116) (rs0 : q_r σ 94 32 = s) (rs1 : q_r σ 94 33 = (s + 1)) (rs2 : q_r σ 94 34 = (s + 2)) (rs3 : q_r σ 94 35 = (s + 3)) (rs4 : q_r σ 94 36 = (s + 4)) (rs5 : q_r σ 94 37 = (s + 5)) (hE : q_E σ) (h : (Q (.inr 100) σ)) : J ω m_M_statement (d + 1) mc ms 0 0 484 [] [.ref 100] σ Q := by
  exact j_athrow d_M_statement_484 (jt_out rfl (Nat.zero_le _) (Nat.zero_le _) h)
set_option maxHeartbeats 2000000 in
theorem b_M_statement_415 {ω : q_W} {σ : q_H} {Q : q_R → q_H → Prop} {d mc ms : Nat} {x2 : Int} {x3 : Int} {s : Nat} (hs : s = 110 ∨ s = 116) (rs0 : q_r σ 94 32 = s) (rs1 : q_r σ 94 33 = (s + 1)) (rs2 : q_r σ 94 34 = (s + 2)) (rs3 : q_r σ 94 35 = (s + 3)) (rs4 : q_r σ 94 36 = (s + 4)) (rs5 : q_r σ 94 37 = (s + 5)) (hE : q_E σ) (h : (0 ≤ (z σ 94 8) ∧ (z σ 94 8) < 4098) ∧ q_imp ((z σ 96 (z σ 94 8).toNat) = 125) ((J ω m_M_taken d 0 0 0 0 0 [(0, .ref 94)] [] (zs σ 94 9 ((z σ 94 9) - 1)) (q_ox (q_ki (fun v τ => J ω m_M_statement (d + 1) mc ms 0 0 468 [(0, .ref 94), (2, .int (zI x2))] [.int (zI v)] τ Q)) (fun x τ => Q (.inr x) τ)))) ∧ q_imp ((z σ 96 (z σ 94 8).toNat) ≠ 125) ((J ω m_M_statement d 0 0 0 0 0 [(0, .ref 94)] [] σ (q_ox (q_ki (fun v τ => J ω m_M_statement (d + 1) mc ms 0 0 428 [(0, .ref 94), (2, .int (zI x2)), (3, .int (zI x3))] [.int (zI v)] τ Q)) (fun x τ => Q (.inr x) τ))))) : J ω m_M_statement (d + 1) mc ms 0 0 415 [(0, .ref 94), (2, .int (zI x2)), (3, .int (zI x3))] [] σ Q := by
  refine j_aload_n d_M_statement_415 0 rfl ?_
  obtain ⟨c4, h⟩ := h
  refine j_callV m_M_kind [] [] 0 0 0 cV_M_227 d_M_statement_416 rfl rfl (tg_94 hE) (q_okE hE (by decide)) (Nat.le_of_ble_eq_true rfl) (Nat.succ_le_succ (Nat.zero_le _)) (Nat.le_of_ble_eq_true rfl) (Nat.zero_le _) (Nat.zero_le _) (c_M_kind2 hE c4 (q_z _ _ _) (q_z _ _ _)) (fun v τ h => ?_) (fun x τ h => absurd h.1 (by simp))
  obtain ⟨e1, e2⟩ := h; cases e1; rw [e2]
  refine j_bipush (v := zI 125) d_M_statement_419 (by decide) ?_
  obtain ⟨h1, h2⟩ := h
  refine zj_icmp_eq 454 d_M_statement_421 (by decide) (z_R _ _ _) ⟨by decide, by decide⟩ (fun k5 => ?_) (fun k5 => ?_)
  · have h := h1 k5
    refine j_aload_n d_M_statement_454 0 rfl ?_
    refine j_dup d_M_statement_455 rfl ?_
    refine zj_getI (z σ 94 9) f_M_224 d_M_statement_456 (tg_94 hE) (q_okE hE (by decide)) (q_z _ _ _) ?_
    refine j_iconst (v := zI 1) d_M_statement_459 (by decide) ?_
    refine zj_isub ((z σ 94 9) - 1) (by omega) d_M_statement_460 ?_
    refine zj_putI (g_M_224 _) d_M_statement_461 (tg_94 hE) (q_okE hE (by decide)) ?_
    refine j_aload_n d_M_statement_464 0 rfl ?_
    refine j_callV m_M_taken [] [] d 0 0 cV_M_234 d_M_statement_465 rfl rfl (tg_94 (zs_E hE)) (q_okE (zs_E hE) (by decide)) (Nat.le_of_ble_eq_true rfl) (Nat.le_refl _) (Nat.le_of_ble_eq_true rfl) (Nat.zero_le _) (Nat.zero_le _) h (fun v τ h => ?_) (fun x τ h => ?_)
    · rcases h with h | ⟨x, e1, h⟩
      · obtain ⟨v, hv, e1, h⟩ := h; cases e1; exact j_sel [0, 1] rfl h
      · cases e1
    · rcases h with h | ⟨y, e1, h⟩
      · obtain ⟨v, hv, e1, h⟩ := h; cases e1
      · cases e1; exact jt_out rfl (Nat.zero_le _) (Nat.zero_le _) h
  · have h := h2 k5
    refine j_aload_n d_M_statement_424 0 rfl ?_
    refine j_callV m_M_statement [] [] d 0 0 cV_M_277 d_M_statement_425 rfl rfl (tg_94 hE) (q_okE hE (by decide)) (Nat.le_of_ble_eq_true rfl) (Nat.le_refl _) (Nat.le_of_ble_eq_true rfl) (Nat.zero_le _) (Nat.zero_le _) h (fun v τ h => ?_) (fun x τ h => ?_)
    · rcases h with h | ⟨x, e1, h⟩
      · obtain ⟨v, hv, e1, h⟩ := h; cases e1; exact j_sel [0, 1, 2] rfl h
      · cases e1
    · rcases h with h | ⟨y, e1, h⟩
      · obtain ⟨v, hv, e1, h⟩ := h; cases e1
      · cases e1; exact jt_out rfl (Nat.zero_le _) (Nat.zero_le _) h
set_option maxHeartbeats 2000000 in
theorem b_M_statement_181 {ω : q_W} {σ : q_H} {Q : q_R → q_H → Prop} {d mc ms : Nat} {y0 : Int} {s : Nat} (hs : s = 110 ∨ s = 116) (rs0 : q_r σ 94 32 = s) (rs1 : q_r σ 94 33 = (s + 1)) (rs2 : q_r σ 94 34 = (s + 2)) (rs3 : q_r σ 94 35 = (s + 3)) (rs4 : q_r σ 94 36 = (s + 4)) (rs5 : q_r σ 94 37 = (s + 5)) (hE : q_E σ) (h : (J ω m_M_statement d 0 0 0 0 0 [(0, .ref 94)] [] (zs σ 94 9 ((z σ 94 9) + 1)) (q_ox (q_ki (fun v τ => J ω m_M_statement (d + 1) mc ms 0 0 196 [(0, .ref 94), (2, .int (zI y0))] [.int (zI v)] τ Q)) (fun x τ => Q (.inr x) τ)))) : J ω m_M_statement (d + 1) mc ms 0 0 181 [(0, .ref 94)] [.int (zI y0)] σ Q := by
  refine j_istore_n (L' := [(2, .int (zI y0)), (0, .ref 94)]) d_M_statement_181 (by decide) rfl ?_
  refine j_aload_n d_M_statement_182 1 rfl ?_
  refine j_dup d_M_statement_183 rfl ?_
  refine zj_getI (z σ 94 9) f_M_224 d_M_statement_184 (tg_94 hE) (q_okE hE (by decide)) (q_z _ _ _) ?_
  refine j_iconst (v := zI 1) d_M_statement_187 (by decide) ?_
  refine zj_iadd ((z σ 94 9) + 1) (by omega) d_M_statement_188 ?_
  refine zj_putI (g_M_224 _) d_M_statement_189 (tg_94 hE) (q_okE hE (by decide)) ?_
  refine j_aload_n d_M_statement_192 1 rfl ?_
  refine j_callV m_M_statement [] [] d 0 0 cV_M_277 d_M_statement_193 rfl rfl (tg_94 (zs_E hE)) (q_okE (zs_E hE) (by decide)) (Nat.le_of_ble_eq_true rfl) (Nat.le_refl _) (Nat.le_of_ble_eq_true rfl) (Nat.zero_le _) (Nat.zero_le _) h (fun v τ h => ?_) (fun x τ h => ?_)
  · rcases h with h | ⟨x, e1, h⟩
    · obtain ⟨v, hv, e1, h⟩ := h; cases e1; exact j_sel [1, 0] rfl h
    · cases e1
  · rcases h with h | ⟨y, e1, h⟩
    · obtain ⟨v, hv, e1, h⟩ := h; cases e1
    · cases e1; exact jt_out rfl (Nat.zero_le _) (Nat.zero_le _) h
set_option maxHeartbeats 2000000 in
theorem b_M_statement_275 {ω : q_W} {σ : q_H} {Q : q_R → q_H → Prop} {d mc ms : Nat} {y0 : Int} {s : Nat} (hs : s = 110 ∨ s = 116) (rs0 : q_r σ 94 32 = s) (rs1 : q_r σ 94 33 = (s + 1)) (rs2 : q_r σ 94 34 = (s + 2)) (rs3 : q_r σ 94 35 = (s + 3)) (rs4 : q_r σ 94 36 = (s + 4)) (rs5 : q_r σ 94 37 = (s + 5)) (hE : q_E σ) (h : (0 ≤ y0 ∧ y0 < 4098) ∧ q_imp ((z σ 98 y0.toNat) ≤ 8) ((J ω m_M_statement (d + 1) mc ms 0 0 293 [(0, .ref 94), (2, .int (zI y0))] [] σ Q)) ∧ q_imp ((z σ 98 y0.toNat) > 8) ((J ω m_M_found d 0 0 0 0 0 [(0, .ref 94), (1, .int (zI 5)), (2, .int (zI y0))] [] σ (q_kv (fun τ => J ω m_M_statement (d + 1) mc ms 0 0 293 [(0, .ref 94), (2, .int (zI y0))] [] τ Q))))) : J ω m_M_statement (d + 1) mc ms 0 0 275 [(0, .ref 94)] [.int (zI y0)] σ Q := by
  refine j_istore_n (L' := [(2, .int (zI y0)), (0, .ref 94)]) d_M_statement_275 (by decide) rfl ?_
  refine j_aload_n d_M_statement_276 1 rfl ?_
  refine j_getR 98 f_M_20 d_M_statement_277 (tg_94 hE) (q_okE hE (by decide)) (rf_94_5 hE) (by decide) ?_
  refine j_iload_n d_M_statement_280 0 rfl ?_
  obtain ⟨c6, h⟩ := h
  refine zj_iald (z σ 98 y0.toNat) d_M_statement_281 (tg_98 hE) (q_okE hE (by decide)) c6 (by decide) (q_z _ _ _) ?_
  refine j_bipush (v := zI 8) d_M_statement_282 (by decide) ?_
  obtain ⟨h1, h2⟩ := h
  refine zj_icmp_le 293 d_M_statement_284 (by decide) (z_R _ _ _) ⟨by decide, by decide⟩ (fun k7 => ?_) (fun k7 => ?_)
  · have h := h1 k7
    exact j_sel [1, 0] rfl h
  · have h := h2 k7
    refine j_aload_n d_M_statement_287 1 rfl ?_
    refine j_iconst (v := zI 5) d_M_statement_288 (by decide) ?_
    refine j_iload_n d_M_statement_289 0 rfl ?_
    refine j_callV m_M_found [.int (zI 5), .int (zI y0)] [] d 0 0 cV_M_255 d_M_statement_290 rfl rfl (tg_94 hE) (q_okE hE (by decide)) (Nat.le_of_ble_eq_true rfl) (Nat.le_refl _) (Nat.le_of_ble_eq_true rfl) (Nat.zero_le _) (Nat.zero_le _) h (fun v τ h => ?_) (fun x τ h => ?_)
    · obtain ⟨e1, h⟩ := h; cases e1; exact j_sel [1, 0] rfl h
    · obtain ⟨e1, h⟩ := h; cases e1
set_option maxHeartbeats 2000000 in
theorem b_M_statement_373 {ω : q_W} {σ : q_H} {Q : q_R → q_H → Prop} {d mc ms : Nat} {x1 : Int} {x3 : Int} {s : Nat} (hs : s = 110 ∨ s = 116) (rs0 : q_r σ 94 32 = s) (rs1 : q_r σ 94 33 = (s + 1)) (rs2 : q_r σ 94 34 = (s + 2)) (rs3 : q_r σ 94 35 = (s + 3)) (rs4 : q_r σ 94 36 = (s + 4)) (rs5 : q_r σ 94 37 = (s + 5)) (hE : q_E σ) (h : (J ω m_M_expr d 0 0 0 0 0 [(0, .ref 94)] [] σ (q_ox (q_ki (fun v τ => J ω m_M_statement (d + 1) mc ms 0 0 377 [(0, .ref 94), (1, .int (zI x1)), (3, .int (zI x3))] [.int (zI v)] τ Q)) (fun x τ => Q (.inr x) τ)))) : J ω m_M_statement (d + 1) mc ms 0 0 373 [(0, .ref 94), (1, .int (zI x1)), (3, .int (zI x3))] [] σ Q := by
  refine j_aload_n d_M_statement_373 0 rfl ?_
  refine j_callV m_M_expr [] [] d 0 0 cV_M_267 d_M_statement_374 rfl rfl (tg_94 hE) (q_okE hE (by decide)) (Nat.le_of_ble_eq_true rfl) (Nat.le_refl _) (Nat.le_of_ble_eq_true rfl) (Nat.zero_le _) (Nat.zero_le _) h (fun v τ h => ?_) (fun x τ h => ?_)
  · rcases h with h | ⟨x, e1, h⟩
    · obtain ⟨v, hv, e1, h⟩ := h; cases e1; exact j_sel [0, 1, 2] rfl h
    · cases e1
  · rcases h with h | ⟨y, e1, h⟩
    · obtain ⟨v, hv, e1, h⟩ := h; cases e1
    · cases e1; exact jt_out rfl (Nat.zero_le _) (Nat.zero_le _) h
set_option maxHeartbeats 2000000 in
theorem b_M_statement_75 {ω : q_W} {σ : q_H} {Q : q_R → q_H → Prop} {d mc ms : Nat} {x1 : Int} {y0 : Int} {s : Nat} (hs : s = 110 ∨ s = 116) (rs0 : q_r σ 94 32 = s) (rs1 : q_r σ 94 33 = (s + 1)) (rs2 : q_r σ 94 34 = (s + 2)) (rs3 : q_r σ 94 35 = (s + 3)) (rs4 : q_r σ 94 36 = (s + 4)) (rs5 : q_r σ 94 37 = (s + 5)) (hE : q_E σ) (h : (J ω m_M_expr d 0 0 0 0 0 [(0, .ref 94)] [] σ (q_ox (q_ki (fun v τ => J ω m_M_statement (d + 1) mc ms 0 0 80 [(0, .ref 94), (1, .int (zI x1))] [.int (zI v)] τ Q)) (fun x τ => Q (.inr x) τ)))) : J ω m_M_statement (d + 1) mc ms 0 0 75 [(0, .ref 94), (1, .int (zI x1))] [.int (zI y0)] σ Q := by
  refine j_istore_n (L' := [(2, .int (zI y0)), (0, .ref 94), (1, .int (zI x1))]) d_M_statement_75 (by decide) rfl ?_
  refine j_aload_n d_M_statement_76 1 rfl ?_
  refine j_callV m_M_expr [] [] d 0 0 cV_M_267 d_M_statement_77 rfl rfl (tg_94 hE) (q_okE hE (by decide)) (Nat.le_of_ble_eq_true rfl) (Nat.le_refl _) (Nat.le_of_ble_eq_true rfl) (Nat.zero_le _) (Nat.zero_le _) h (fun v τ h => ?_) (fun x τ h => ?_)
  · rcases h with h | ⟨x, e1, h⟩
    · obtain ⟨v, hv, e1, h⟩ := h; cases e1; exact j_sel [1, 2] rfl h
    · cases e1
  · rcases h with h | ⟨y, e1, h⟩
    · obtain ⟨v, hv, e1, h⟩ := h; cases e1
    · cases e1; exact jt_out rfl (Nat.zero_le _) (Nat.zero_le _) h
set_option maxHeartbeats 2000000 in
theorem b_M_statement_468 {ω : q_W} {σ : q_H} {Q : q_R → q_H → Prop} {d mc ms : Nat} {x2 : Int} {y0 : Int} {s : Nat} (hs : s = 110 ∨ s = 116) (rs0 : q_r σ 94 32 = s) (rs1 : q_r σ 94 33 = (s + 1)) (rs2 : q_r σ 94 34 = (s + 2)) (rs3 : q_r σ 94 35 = (s + 3)) (rs4 : q_r σ 94 36 = (s + 4)) (rs5 : q_r σ 94 37 = (s + 5)) (hE : q_E σ) (h : (J ω m_M_node d 0 0 0 0 0 [(0, .ref 94), (1, .int (zI 275)), (2, .int (zI x2)), (3, .int (zI 0)), (4, .int (zI 0))] [] σ (q_ki (fun v τ => J ω m_M_statement (d + 1) mc ms 0 0 479 [] [.int (zI v)] τ Q)))) : J ω m_M_statement (d + 1) mc ms 0 0 468 [(0, .ref 94), (2, .int (zI x2))] [.int (zI y0)] σ Q := by
  refine j_istore_n (L' := [(1, .int (zI y0)), (0, .ref 94), (2, .int (zI x2))]) d_M_statement_468 (by decide) rfl ?_
  refine j_aload_n d_M_statement_469 1 rfl ?_
  refine j_sipush (v := zI 275) d_M_statement_470 (by decide) ?_
  refine j_iload_n d_M_statement_473 2 rfl ?_
  refine j_iconst (v := zI 0) d_M_statement_474 (by decide) ?_
  refine j_iconst (v := zI 0) d_M_statement_475 (by decide) ?_
  refine j_callV m_M_node [.int (zI 275), .int (zI x2), .int (zI 0), .int (zI 0)] [] d 0 0 cV_M_270 d_M_statement_476 rfl rfl (tg_94 hE) (q_okE hE (by decide)) (Nat.le_of_ble_eq_true rfl) (Nat.le_refl _) (Nat.le_of_ble_eq_true rfl) (Nat.zero_le _) (Nat.zero_le _) h (fun v τ h => ?_) (fun x τ h => ?_)
  · obtain ⟨v, hv, e1, h⟩ := h; cases e1; exact j_sel [] rfl h
  · obtain ⟨v, hv, e1, h⟩ := h; cases e1
set_option maxHeartbeats 2000000 in
theorem b_M_statement_428 {ω : q_W} {σ : q_H} {Q : q_R → q_H → Prop} {d mc ms : Nat} {x2 : Int} {x3 : Int} {y0 : Int} {s : Nat} (hs : s = 110 ∨ s = 116) (rs0 : q_r σ 94 32 = s) (rs1 : q_r σ 94 33 = (s + 1)) (rs2 : q_r σ 94 34 = (s + 2)) (rs3 : q_r σ 94 35 = (s + 3)) (rs4 : q_r σ 94 36 = (s + 4)) (rs5 : q_r σ 94 37 = (s + 5)) (hE : q_E σ) (h : inR x3 ∧ q_imp (0 ≤ x3) ((0 ≤ x3 ∧ x3 < 9000) ∧ (J ω m_M_statement (d + 1) mc ms 0 0 415 [(0, .ref 94), (2, .int (zI x2)), (3, .int (zI y0))] [] (zs σ (s + 4) x3.toNat y0) Q)) ∧ q_imp (x3 < 0) ((J ω m_M_statement (d + 1) mc ms 0 0 415 [(0, .ref 94), (2, .int (zI y0)), (3, .int (zI y0))] [] σ Q))) : J ω m_M_statement (d + 1) mc ms 0 0 428 [(0, .ref 94), (2, .int (zI x2)), (3, .int (zI x3))] [.int (zI y0)] σ Q := by
  refine j_istore (L' := [(4, .int (zI y0)), (0, .ref 94), (2, .int (zI x2)), (3, .int (zI x3))]) d_M_statement_428 (by decide) rfl ?_
  refine j_iload_n d_M_statement_430 3 rfl ?_
  obtain ⟨r8, h⟩ := h
  obtain ⟨h1, h2⟩ := h
  refine zj_if_ge 440 d_M_statement_431 (by decide) r8 (fun k9 => ?_) (fun k9 => ?_)
  · have h := h1 k9
    refine j_aload_n d_M_statement_440 1 rfl ?_
    refine j_getR (s + 4) f_M_73 d_M_statement_441 (tg_94 hE) (q_okE hE (by decide)) (rs4) (by omega) ?_
    refine j_iload_n d_M_statement_444 3 rfl ?_
    refine j_iload d_M_statement_445 0 rfl ?_
    obtain ⟨c10, h⟩ := h
    refine zj_iast d_M_statement_447 (tY_s_4 hE hs) (q_okE hE (by omega)) c10 (by decide) ?_
    refine j_iload d_M_statement_448 0 rfl ?_
    refine j_istore_n (L' := [(3, .int (zI y0)), (4, .int (zI y0)), (0, .ref 94), (2, .int (zI x2))]) d_M_statement_450 (by decide) rfl ?_
    refine j_goto 415 d_M_statement_451 (by decide) ?_
    exact j_sel [2, 3, 0] rfl h
  · have h := h2 k9
    refine j_iload d_M_statement_434 0 rfl ?_
    refine j_istore_n (L' := [(2, .int (zI y0)), (4, .int (zI y0)), (0, .ref 94), (3, .int (zI x3))]) d_M_statement_436 (by decide) rfl ?_
    refine j_goto 448 d_M_statement_437 (by decide) ?_
    refine j_iload d_M_statement_448 1 rfl ?_
    refine j_istore_n (L' := [(3, .int (zI y0)), (2, .int (zI y0)), (4, .int (zI y0)), (0, .ref 94)]) d_M_statement_450 (by decide) rfl ?_
    refine j_goto 415 d_M_statement_451 (by decide) ?_
    exact j_sel [3, 1, 0] rfl h
set_option maxHeartbeats 2000000 in
theorem b_M_statement_196 {ω : q_W} {σ : q_H} {Q : q_R → q_H → Prop} {d mc ms : Nat} {x2 : Int} {y0 : Int} {s : Nat} (hs : s = 110 ∨ s = 116) (rs0 : q_r σ 94 32 = s) (rs1 : q_r σ 94 33 = (s + 1)) (rs2 : q_r σ 94 34 = (s + 2)) (rs3 : q_r σ 94 35 = (s + 3)) (rs4 : q_r σ 94 36 = (s + 4)) (rs5 : q_r σ 94 37 = (s + 5)) (hE : q_E σ) (h : (0 ≤ (z σ 94 8) ∧ (z σ 94 8) < 4098) ∧ q_imp ((z σ 96 (z σ 94 8).toNat) ≠ 259) ((J ω m_M_node d 0 0 0 0 0 [(0, .ref 94), (1, .int (zI 258)), (2, .int (zI x2)), (3, .int (zI y0)), (4, .int (zI (-1)))] [] (zs σ 94 9 ((z σ 94 9) - 1)) (q_ki (fun v τ => J ω m_M_statement (d + 1) mc ms 0 0 262 [] [.int (zI v)] τ Q)))) ∧ q_imp ((z σ 96 (z σ 94 8).toNat) = 259) ((J ω m_M_taken d 0 0 0 0 0 [(0, .ref 94)] [] (zs σ 94 9 ((z σ 94 9) - 1)) (q_ox (q_ki (fun v τ => J ω m_M_statement (d + 1) mc ms 0 0 224 [(0, .ref 94), (2, .int (zI x2)), (3, .int (zI y0))] [.int (zI v)] τ Q)) (fun x τ => Q (.inr x) τ))))) : J ω m_M_statement (d + 1) mc ms 0 0 196 [(0, .ref 94), (2, .int (zI x2))] [.int (zI y0)] σ Q := by
  refine j_istore_n (L' := [(3, .int (zI y0)), (0, .ref 94), (2, .int (zI x2))]) d_M_statement_196 (by decide) rfl ?_
  refine j_aload_n d_M_statement_197 1 rfl ?_
  refine j_dup d_M_statement_198 rfl ?_
  refine zj_getI (z σ 94 9) f_M_224 d_M_statement_199 (tg_94 hE) (q_okE hE (by decide)) (q_z _ _ _) ?_
  refine j_iconst (v := zI 1) d_M_statement_202 (by decide) ?_
  refine zj_isub ((z σ 94 9) - 1) (by omega) d_M_statement_203 ?_
  refine zj_putI (g_M_224 _) d_M_statement_204 (tg_94 hE) (q_okE hE (by decide)) ?_
  refine j_iconst (v := zI (-1)) d_M_statement_207 (by decide) ?_
  refine j_istore (L' := [(4, .int (zI (-1))), (3, .int (zI y0)), (0, .ref 94), (2, .int (zI x2))]) d_M_statement_208 (by decide) rfl ?_
  refine j_aload_n d_M_statement_210 2 rfl ?_
  obtain ⟨c11, h⟩ := h
  refine j_callV m_M_kind [] [] 0 0 0 cV_M_227 d_M_statement_211 rfl rfl (tg_94 (zs_E hE)) (q_okE (zs_E hE) (by decide)) (Nat.le_of_ble_eq_true rfl) (Nat.succ_le_succ (Nat.zero_le _)) (Nat.le_of_ble_eq_true rfl) (Nat.zero_le _) (Nat.zero_le _) (c_M_kind2 (zs_E hE) c11 (Eq.trans (qs_k (by decide)) (q_z _ _ _)) (Eq.trans (qs_o (by decide)) (q_z _ _ _))) (fun v τ h => ?_) (fun x τ h => absurd h.1 (by simp))
  obtain ⟨e1, e2⟩ := h; cases e1; rw [e2]
  refine j_sipush (v := zI 259) d_M_statement_214 (by decide) ?_
  obtain ⟨h1, h2⟩ := h
  refine zj_icmp_ne 251 d_M_statement_217 (by decide) (z_R _ _ _) ⟨by decide, by decide⟩ (fun k12 => ?_) (fun k12 => ?_)
  · have h := h1 k12
    refine j_aload_n d_M_statement_251 2 rfl ?_
    refine j_sipush (v := zI 258) d_M_statement_252 (by decide) ?_
    refine j_iload_n d_M_statement_255 3 rfl ?_
    refine j_iload_n d_M_statement_256 1 rfl ?_
    refine j_iload d_M_statement_257 0 rfl ?_
    refine j_callV m_M_node [.int (zI 258), .int (zI x2), .int (zI y0), .int (zI (-1))] [] d 0 0 cV_M_270 d_M_statement_259 rfl rfl (tg_94 (zs_E hE)) (q_okE (zs_E hE) (by decide)) (Nat.le_of_ble_eq_true rfl) (Nat.le_refl _) (Nat.le_of_ble_eq_true rfl) (Nat.zero_le _) (Nat.zero_le _) h (fun v τ h => ?_) (fun x τ h => ?_)
    · obtain ⟨v, hv, e1, h⟩ := h; cases e1; exact j_sel [] rfl h
    · obtain ⟨v, hv, e1, h⟩ := h; cases e1
  · have h := h2 k12
    refine j_aload_n d_M_statement_220 2 rfl ?_
    refine j_callV m_M_taken [] [] d 0 0 cV_M_234 d_M_statement_221 rfl rfl (tg_94 (zs_E hE)) (q_okE (zs_E hE) (by decide)) (Nat.le_of_ble_eq_true rfl) (Nat.le_refl _) (Nat.le_of_ble_eq_true rfl) (Nat.zero_le _) (Nat.zero_le _) h (fun v τ h => ?_) (fun x τ h => ?_)
    · rcases h with h | ⟨x, e1, h⟩
      · obtain ⟨v, hv, e1, h⟩ := h; cases e1; exact j_sel [2, 3, 1] rfl h
      · cases e1
    · rcases h with h | ⟨y, e1, h⟩
      · obtain ⟨v, hv, e1, h⟩ := h; cases e1
      · cases e1; exact jt_out rfl (Nat.zero_le _) (Nat.zero_le _) h
set_option maxHeartbeats 2000000 in
theorem b_M_statement_293 {ω : q_W} {σ : q_H} {Q : q_R → q_H → Prop} {d mc ms : Nat} {x2 : Int} {s : Nat} (hs : s = 110 ∨ s = 116) (rs0 : q_r σ 94 32 = s) (rs1 : q_r σ 94 33 = (s + 1)) (rs2 : q_r σ 94 34 = (s + 2)) (rs3 : q_r σ 94 35 = (s + 3)) (rs4 : q_r σ 94 36 = (s + 4)) (rs5 : q_r σ 94 37 = (s + 5)) (hE : q_E σ) (h : (J ω m_M_inBrackets d 0 0 0 0 0 [(0, .ref 94)] [] σ (q_ox (q_ki (fun v τ => J ω m_M_statement (d + 1) mc ms 0 0 297 [(0, .ref 94), (2, .int (zI x2))] [.int (zI v)] τ Q)) (fun x τ => Q (.inr x) τ)))) : J ω m_M_statement (d + 1) mc ms 0 0 293 [(0, .ref 94), (2, .int (zI x2))] [] σ Q := by
  refine j_aload_n d_M_statement_293 0 rfl ?_
  refine j_callV m_M_inBrackets [] [] d 0 0 cV_M_274 d_M_statement_294 rfl rfl (tg_94 hE) (q_okE hE (by decide)) (Nat.le_of_ble_eq_true rfl) (Nat.le_refl _) (Nat.le_of_ble_eq_true rfl) (Nat.zero_le _) (Nat.zero_le _) h (fun v τ h => ?_) (fun x τ h => ?_)
  · rcases h with h | ⟨x, e1, h⟩
    · obtain ⟨v, hv, e1, h⟩ := h; cases e1; exact j_sel [0, 1] rfl h
    · cases e1
  · rcases h with h | ⟨y, e1, h⟩
    · obtain ⟨v, hv, e1, h⟩ := h; cases e1
    · cases e1; exact jt_out rfl (Nat.zero_le _) (Nat.zero_le _) h
set_option maxHeartbeats 2000000 in
theorem b_M_statement_377 {ω : q_W} {σ : q_H} {Q : q_R → q_H → Prop} {d mc ms : Nat} {x1 : Int} {x3 : Int} {y0 : Int} {s : Nat} (hs : s = 110 ∨ s = 116) (rs0 : q_r σ 94 32 = s) (rs1 : q_r σ 94 33 = (s + 1)) (rs2 : q_r σ 94 34 = (s + 2)) (rs3 : q_r σ 94 35 = (s + 3)) (rs4 : q_r σ 94 36 = (s + 4)) (rs5 : q_r σ 94 37 = (s + 5)) (hE : q_E σ) (h : (J ω m_M_expect d 0 0 0 0 0 [(0, .ref 94), (1, .int (zI 59))] [] σ (q_ox (q_ki (fun v τ => J ω m_M_statement (d + 1) mc ms 0 0 385 [(0, .ref 94), (1, .int (zI x1)), (3, .int (zI x3)), (4, .int (zI y0))] [.int (zI v)] τ Q)) (fun x τ => Q (.inr x) τ)))) : J ω m_M_statement (d + 1) mc ms 0 0 377 [(0, .ref 94), (1, .int (zI x1)), (3, .int (zI x3))] [.int (zI y0)] σ Q := by
  refine j_istore (L' := [(4, .int (zI y0)), (0, .ref 94), (1, .int (zI x1)), (3, .int (zI x3))]) d_M_statement_377 (by decide) rfl ?_
  refine j_aload_n d_M_statement_379 1 rfl ?_
  refine j_bipush (v := zI 59) d_M_statement_380 (by decide) ?_
  refine j_callV m_M_expect [.int (zI 59)] [] d 0 0 cV_M_249 d_M_statement_382 rfl rfl (tg_94 hE) (q_okE hE (by decide)) (Nat.le_of_ble_eq_true rfl) (Nat.le_refl _) (Nat.le_of_ble_eq_true rfl) (Nat.zero_le _) (Nat.zero_le _) h (fun v τ h => ?_) (fun x τ h => ?_)
  · rcases h with h | ⟨x, e1, h⟩
    · obtain ⟨v, hv, e1, h⟩ := h; cases e1; exact j_sel [1, 2, 3, 0] rfl h
    · cases e1
  · rcases h with h | ⟨y, e1, h⟩
    · obtain ⟨v, hv, e1, h⟩ := h; cases e1
    · cases e1; exact jt_out rfl (Nat.zero_le _) (Nat.zero_le _) h
set_option maxHeartbeats 2000000 in
theorem b_M_statement_80 {ω : q_W} {σ : q_H} {Q : q_R → q_H → Prop} {d mc ms : Nat} {x1 : Int} {y0 : Int} {s : Nat} (hs : s = 110 ∨ s = 116) (rs0 : q_r σ 94 32 = s) (rs1 : q_r σ 94 33 = (s + 1)) (rs2 : q_r σ 94 34 = (s + 2)) (rs3 : q_r σ 94 35 = (s + 3)) (rs4 : q_r σ 94 36 = (s + 4)) (rs5 : q_r σ 94 37 = (s + 5)) (hE : q_E σ) (h : (J ω m_M_expect d 0 0 0 0 0 [(0, .ref 94), (1, .int (zI 59))] [] σ (q_ox (q_ki (fun v τ => J ω m_M_statement (d + 1) mc ms 0 0 87 [(0, .ref 94), (1, .int (zI x1)), (3, .int (zI y0))] [.int (zI v)] τ Q)) (fun x τ => Q (.inr x) τ)))) : J ω m_M_statement (d + 1) mc ms 0 0 80 [(0, .ref 94), (1, .int (zI x1))] [.int (zI y0)] σ Q := by
  refine j_istore_n (L' := [(3, .int (zI y0)), (0, .ref 94), (1, .int (zI x1))]) d_M_statement_80 (by decide) rfl ?_
  refine j_aload_n d_M_statement_81 1 rfl ?_
  refine j_bipush (v := zI 59) d_M_statement_82 (by decide) ?_
  refine j_callV m_M_expect [.int (zI 59)] [] d 0 0 cV_M_249 d_M_statement_84 rfl rfl (tg_94 hE) (q_okE hE (by decide)) (Nat.le_of_ble_eq_true rfl) (Nat.le_refl _) (Nat.le_of_ble_eq_true rfl) (Nat.zero_le _) (Nat.zero_le _) h (fun v τ h => ?_) (fun x τ h => ?_)
  · rcases h with h | ⟨x, e1, h⟩
    · obtain ⟨v, hv, e1, h⟩ := h; cases e1; exact j_sel [1, 2, 0] rfl h
    · cases e1
  · rcases h with h | ⟨y, e1, h⟩
    · obtain ⟨v, hv, e1, h⟩ := h; cases e1
    · cases e1; exact jt_out rfl (Nat.zero_le _) (Nat.zero_le _) h
set_option maxHeartbeats 2000000 in
theorem b_M_statement_479 {ω : q_W} {σ : q_H} {Q : q_R → q_H → Prop} {d mc ms : Nat} {y0 : Int} {s : Nat} (hs : s = 110 ∨ s = 116) (rs0 : q_r σ 94 32 = s) (rs1 : q_r σ 94 33 = (s + 1)) (rs2 : q_r σ 94 34 = (s + 2)) (rs3 : q_r σ 94 35 = (s + 3)) (rs4 : q_r σ 94 36 = (s + 4)) (rs5 : q_r σ 94 37 = (s + 5)) (hE : q_E σ) (h : (Q (.inl (some (.int (zI y0)))) σ)) : J ω m_M_statement (d + 1) mc ms 0 0 479 [] [.int (zI y0)] σ Q := by
  exact zj_iret d_M_statement_479 rfl (Nat.zero_le _) (Nat.zero_le _) h
set_option maxHeartbeats 2000000 in
theorem b_M_statement_262 {ω : q_W} {σ : q_H} {Q : q_R → q_H → Prop} {d mc ms : Nat} {y0 : Int} {s : Nat} (hs : s = 110 ∨ s = 116) (rs0 : q_r σ 94 32 = s) (rs1 : q_r σ 94 33 = (s + 1)) (rs2 : q_r σ 94 34 = (s + 2)) (rs3 : q_r σ 94 35 = (s + 3)) (rs4 : q_r σ 94 36 = (s + 4)) (rs5 : q_r σ 94 37 = (s + 5)) (hE : q_E σ) (h : (Q (.inl (some (.int (zI y0)))) σ)) : J ω m_M_statement (d + 1) mc ms 0 0 262 [] [.int (zI y0)] σ Q := by
  exact zj_iret d_M_statement_262 rfl (Nat.zero_le _) (Nat.zero_le _) h
set_option maxHeartbeats 2000000 in
theorem b_M_statement_224 {ω : q_W} {σ : q_H} {Q : q_R → q_H → Prop} {d mc ms : Nat} {x2 : Int} {x3 : Int} {y0 : Int} {s : Nat} (hs : s = 110 ∨ s = 116) (rs0 : q_r σ 94 32 = s) (rs1 : q_r σ 94 33 = (s + 1)) (rs2 : q_r σ 94 34 = (s + 2)) (rs3 : q_r σ 94 35 = (s + 3)) (rs4 : q_r σ 94 36 = (s + 4)) (rs5 : q_r σ 94 37 = (s + 5)) (hE : q_E σ) (h : (J ω m_M_statement d 0 0 0 0 0 [(0, .ref 94)] [] (zs σ 94 9 ((z σ 94 9) + 1)) (q_ox (q_ki (fun v τ => J ω m_M_statement (d + 1) mc ms 0 0 239 [(0, .ref 94), (2, .int (zI x2)), (3, .int (zI x3))] [.int (zI v)] τ Q)) (fun x τ => Q (.inr x) τ)))) : J ω m_M_statement (d + 1) mc ms 0 0 224 [(0, .ref 94), (2, .int (zI x2)), (3, .int (zI x3))] [.int (zI y0)] σ Q := by
  refine j_istore_n (L' := [(1, .int (zI y0)), (0, .ref 94), (2, .int (zI x2)), (3, .int (zI x3))]) d_M_statement_224 (by decide) rfl ?_
  refine j_aload_n d_M_statement_225 1 rfl ?_
  refine j_dup d_M_statement_226 rfl ?_
  refine zj_getI (z σ 94 9) f_M_224 d_M_statement_227 (tg_94 hE) (q_okE hE (by decide)) (q_z _ _ _) ?_
  refine j_iconst (v := zI 1) d_M_statement_230 (by decide) ?_
  refine zj_iadd ((z σ 94 9) + 1) (by omega) d_M_statement_231 ?_
  refine zj_putI (g_M_224 _) d_M_statement_232 (tg_94 hE) (q_okE hE (by decide)) ?_
  refine j_aload_n d_M_statement_235 1 rfl ?_
  refine j_callV m_M_statement [] [] d 0 0 cV_M_277 d_M_statement_236 rfl rfl (tg_94 (zs_E hE)) (q_okE (zs_E hE) (by decide)) (Nat.le_of_ble_eq_true rfl) (Nat.le_refl _) (Nat.le_of_ble_eq_true rfl) (Nat.zero_le _) (Nat.zero_le _) h (fun v τ h => ?_) (fun x τ h => ?_)
  · rcases h with h | ⟨x, e1, h⟩
    · obtain ⟨v, hv, e1, h⟩ := h; cases e1; exact j_sel [1, 2, 3] rfl h
    · cases e1
  · rcases h with h | ⟨y, e1, h⟩
    · obtain ⟨v, hv, e1, h⟩ := h; cases e1
    · cases e1; exact jt_out rfl (Nat.zero_le _) (Nat.zero_le _) h
set_option maxHeartbeats 2000000 in
theorem b_M_statement_297 {ω : q_W} {σ : q_H} {Q : q_R → q_H → Prop} {d mc ms : Nat} {x2 : Int} {y0 : Int} {s : Nat} (hs : s = 110 ∨ s = 116) (rs0 : q_r σ 94 32 = s) (rs1 : q_r σ 94 33 = (s + 1)) (rs2 : q_r σ 94 34 = (s + 2)) (rs3 : q_r σ 94 35 = (s + 3)) (rs4 : q_r σ 94 36 = (s + 4)) (rs5 : q_r σ 94 37 = (s + 5)) (hE : q_E σ) (h : (J ω m_M_statement d 0 0 0 0 0 [(0, .ref 94)] [] (zs σ 94 9 ((z σ 94 9) + 1)) (q_ox (q_ki (fun v τ => J ω m_M_statement (d + 1) mc ms 0 0 312 [(0, .ref 94), (2, .int (zI x2)), (3, .int (zI y0))] [.int (zI v)] τ Q)) (fun x τ => Q (.inr x) τ)))) : J ω m_M_statement (d + 1) mc ms 0 0 297 [(0, .ref 94), (2, .int (zI x2))] [.int (zI y0)] σ Q := by
  refine j_istore_n (L' := [(3, .int (zI y0)), (0, .ref 94), (2, .int (zI x2))]) d_M_statement_297 (by decide) rfl ?_
  refine j_aload_n d_M_statement_298 1 rfl ?_
  refine j_dup d_M_statement_299 rfl ?_
  refine zj_getI (z σ 94 9) f_M_224 d_M_statement_300 (tg_94 hE) (q_okE hE (by decide)) (q_z _ _ _) ?_
  refine j_iconst (v := zI 1) d_M_statement_303 (by decide) ?_
  refine zj_iadd ((z σ 94 9) + 1) (by omega) d_M_statement_304 ?_
  refine zj_putI (g_M_224 _) d_M_statement_305 (tg_94 hE) (q_okE hE (by decide)) ?_
  refine j_aload_n d_M_statement_308 1 rfl ?_
  refine j_callV m_M_statement [] [] d 0 0 cV_M_277 d_M_statement_309 rfl rfl (tg_94 (zs_E hE)) (q_okE (zs_E hE) (by decide)) (Nat.le_of_ble_eq_true rfl) (Nat.le_refl _) (Nat.le_of_ble_eq_true rfl) (Nat.zero_le _) (Nat.zero_le _) h (fun v τ h => ?_) (fun x τ h => ?_)
  · rcases h with h | ⟨x, e1, h⟩
    · obtain ⟨v, hv, e1, h⟩ := h; cases e1; exact j_sel [1, 2, 0] rfl h
    · cases e1
  · rcases h with h | ⟨y, e1, h⟩
    · obtain ⟨v, hv, e1, h⟩ := h; cases e1
    · cases e1; exact jt_out rfl (Nat.zero_le _) (Nat.zero_le _) h
set_option maxHeartbeats 2000000 in
theorem b_M_statement_385 {ω : q_W} {σ : q_H} {Q : q_R → q_H → Prop} {d mc ms : Nat} {x1 : Int} {x3 : Int} {x4 : Int} {y0 : Int} {s : Nat} (hs : s = 110 ∨ s = 116) (rs0 : q_r σ 94 32 = s) (rs1 : q_r σ 94 33 = (s + 1)) (rs2 : q_r σ 94 34 = (s + 2)) (rs3 : q_r σ 94 35 = (s + 3)) (rs4 : q_r σ 94 36 = (s + 4)) (rs5 : q_r σ 94 37 = (s + 5)) (hE : q_E σ) (h : (J ω m_M_node d 0 0 0 0 0 [(0, .ref 94), (1, .int (zI x1)), (2, .int (zI x4)), (3, .int (zI x3)), (4, .int (zI 0))] [] σ (q_ki (fun v τ => J ω m_M_statement (d + 1) mc ms 0 0 395 [] [.int (zI v)] τ Q)))) : J ω m_M_statement (d + 1) mc ms 0 0 385 [(0, .ref 94), (1, .int (zI x1)), (3, .int (zI x3)), (4, .int (zI x4))] [.int (zI y0)] σ Q := by
  refine j_istore_n (L' := [(2, .int (zI y0)), (0, .ref 94), (1, .int (zI x1)), (3, .int (zI x3)), (4, .int (zI x4))]) d_M_statement_385 (by decide) rfl ?_
  refine j_aload_n d_M_statement_386 1 rfl ?_
  refine j_iload_n d_M_statement_387 2 rfl ?_
  refine j_iload d_M_statement_388 4 rfl ?_
  refine j_iload_n d_M_statement_390 3 rfl ?_
  refine j_iconst (v := zI 0) d_M_statement_391 (by decide) ?_
  refine j_callV m_M_node [.int (zI x1), .int (zI x4), .int (zI x3), .int (zI 0)] [] d 0 0 cV_M_270 d_M_statement_392 rfl rfl (tg_94 hE) (q_okE hE (by decide)) (Nat.le_of_ble_eq_true rfl) (Nat.le_refl _) (Nat.le_of_ble_eq_true rfl) (Nat.zero_le _) (Nat.zero_le _) h (fun v τ h => ?_) (fun x τ h => ?_)
  · obtain ⟨v, hv, e1, h⟩ := h; cases e1; exact j_sel [] rfl h
  · obtain ⟨v, hv, e1, h⟩ := h; cases e1
set_option maxHeartbeats 2000000 in
theorem b_M_statement_87 {ω : q_W} {σ : q_H} {Q : q_R → q_H → Prop} {d mc ms : Nat} {x1 : Int} {x3 : Int} {y0 : Int} {s : Nat} (hs : s = 110 ∨ s = 116) (rs0 : q_r σ 94 32 = s) (rs1 : q_r σ 94 33 = (s + 1)) (rs2 : q_r σ 94 34 = (s + 2)) (rs3 : q_r σ 94 35 = (s + 3)) (rs4 : q_r σ 94 36 = (s + 4)) (rs5 : q_r σ 94 37 = (s + 5)) (hE : q_E σ) (h : (0 ≤ x1 ∧ x1 < 4098) ∧ (J ω m_M_lookUp d 0 0 0 0 0 [(0, .ref 94), (1, .long (q_l σ 99 x1.toNat))] [] σ (q_ki (fun v τ => J ω m_M_statement (d + 1) mc ms 0 0 98 [(0, .ref 94), (1, .int (zI x1)), (3, .int (zI x3))] [.int (zI v)] τ Q)))) : J ω m_M_statement (d + 1) mc ms 0 0 87 [(0, .ref 94), (1, .int (zI x1)), (3, .int (zI x3))] [.int (zI y0)] σ Q := by
  refine j_istore_n (L' := [(2, .int (zI y0)), (0, .ref 94), (1, .int (zI x1)), (3, .int (zI x3))]) d_M_statement_87 (by decide) rfl ?_
  refine j_aload_n d_M_statement_88 1 rfl ?_
  refine j_aload_n d_M_statement_89 1 rfl ?_
  refine j_getR 99 f_M_23 d_M_statement_90 (tg_94 hE) (q_okE hE (by decide)) (rf_94_6 hE) (by decide) ?_
  refine j_iload_n d_M_statement_93 2 rfl ?_
  obtain ⟨c13, h⟩ := h
  refine zj_lald (q_l σ 99 x1.toNat) d_M_statement_94 (tg_99 hE) (q_okE hE (by decide)) c13 (by decide) (rfl) ?_
  refine j_callV m_M_lookUp [.long (q_l σ 99 x1.toNat)] [] d 0 0 cV_M_252 d_M_statement_95 rfl rfl (tg_94 hE) (q_okE hE (by decide)) (Nat.le_of_ble_eq_true rfl) (Nat.le_refl _) (Nat.le_of_ble_eq_true rfl) (Nat.zero_le _) (Nat.zero_le _) h (fun v τ h => ?_) (fun x τ h => ?_)
  · obtain ⟨v, hv, e1, h⟩ := h; cases e1; exact j_sel [1, 2, 3] rfl h
  · obtain ⟨v, hv, e1, h⟩ := h; cases e1
set_option maxHeartbeats 2000000 in
theorem b_M_statement_239 {ω : q_W} {σ : q_H} {Q : q_R → q_H → Prop} {d mc ms : Nat} {x2 : Int} {x3 : Int} {y0 : Int} {s : Nat} (hs : s = 110 ∨ s = 116) (rs0 : q_r σ 94 32 = s) (rs1 : q_r σ 94 33 = (s + 1)) (rs2 : q_r σ 94 34 = (s + 2)) (rs3 : q_r σ 94 35 = (s + 3)) (rs4 : q_r σ 94 36 = (s + 4)) (rs5 : q_r σ 94 37 = (s + 5)) (hE : q_E σ) (h : (J ω m_M_node d 0 0 0 0 0 [(0, .ref 94), (1, .int (zI 258)), (2, .int (zI x2)), (3, .int (zI x3)), (4, .int (zI y0))] [] (zs σ 94 9 ((z σ 94 9) - 1)) (q_ki (fun v τ => J ω m_M_statement (d + 1) mc ms 0 0 262 [] [.int (zI v)] τ Q)))) : J ω m_M_statement (d + 1) mc ms 0 0 239 [(0, .ref 94), (2, .int (zI x2)), (3, .int (zI x3))] [.int (zI y0)] σ Q := by
  refine j_istore (L' := [(4, .int (zI y0)), (0, .ref 94), (2, .int (zI x2)), (3, .int (zI x3))]) d_M_statement_239 (by decide) rfl ?_
  refine j_aload_n d_M_statement_241 1 rfl ?_
  refine j_dup d_M_statement_242 rfl ?_
  refine zj_getI (z σ 94 9) f_M_224 d_M_statement_243 (tg_94 hE) (q_okE hE (by decide)) (q_z _ _ _) ?_
  refine j_iconst (v := zI 1) d_M_statement_246 (by decide) ?_
  refine zj_isub ((z σ 94 9) - 1) (by omega) d_M_statement_247 ?_
  refine zj_putI (g_M_224 _) d_M_statement_248 (tg_94 hE) (q_okE hE (by decide)) ?_
  refine j_aload_n d_M_statement_251 1 rfl ?_
  refine j_sipush (v := zI 258) d_M_statement_252 (by decide) ?_
  refine j_iload_n d_M_statement_255 2 rfl ?_
  refine j_iload_n d_M_statement_256 3 rfl ?_
  refine j_iload d_M_statement_257 0 rfl ?_
  refine j_callV m_M_node [.int (zI 258), .int (zI x2), .int (zI x3), .int (zI y0)] [] d 0 0 cV_M_270 d_M_statement_259 rfl rfl (tg_94 (zs_E hE)) (q_okE (zs_E hE) (by decide)) (Nat.le_of_ble_eq_true rfl) (Nat.le_refl _) (Nat.le_of_ble_eq_true rfl) (Nat.zero_le _) (Nat.zero_le _) h (fun v τ h => ?_) (fun x τ h => ?_)
  · obtain ⟨v, hv, e1, h⟩ := h; cases e1; exact j_sel [] rfl h
  · obtain ⟨v, hv, e1, h⟩ := h; cases e1
set_option maxHeartbeats 2000000 in
theorem b_M_statement_312 {ω : q_W} {σ : q_H} {Q : q_R → q_H → Prop} {d mc ms : Nat} {x2 : Int} {x3 : Int} {y0 : Int} {s : Nat} (hs : s = 110 ∨ s = 116) (rs0 : q_r σ 94 32 = s) (rs1 : q_r σ 94 33 = (s + 1)) (rs2 : q_r σ 94 34 = (s + 2)) (rs3 : q_r σ 94 35 = (s + 3)) (rs4 : q_r σ 94 36 = (s + 4)) (rs5 : q_r σ 94 37 = (s + 5)) (hE : q_E σ) (h : (0 ≤ x2 ∧ x2 < 4098) ∧ (J ω m_M_node d 0 0 0 0 0 [(0, .ref 94), (1, .int (zI 260)), (2, .int (zI x3)), (3, .int (zI y0)), (4, .int (zI (z σ 98 x2.toNat)))] [] (zs σ 94 9 ((z σ 94 9) - 1)) (q_ki (fun v τ => J ω m_M_statement (d + 1) mc ms 0 0 340 [] [.int (zI v)] τ Q)))) : J ω m_M_statement (d + 1) mc ms 0 0 312 [(0, .ref 94), (2, .int (zI x2)), (3, .int (zI x3))] [.int (zI y0)] σ Q := by
  refine j_istore (L' := [(4, .int (zI y0)), (0, .ref 94), (2, .int (zI x2)), (3, .int (zI x3))]) d_M_statement_312 (by decide) rfl ?_
  refine j_aload_n d_M_statement_314 1 rfl ?_
  refine j_dup d_M_statement_315 rfl ?_
  refine zj_getI (z σ 94 9) f_M_224 d_M_statement_316 (tg_94 hE) (q_okE hE (by decide)) (q_z _ _ _) ?_
  refine j_iconst (v := zI 1) d_M_statement_319 (by decide) ?_
  refine zj_isub ((z σ 94 9) - 1) (by omega) d_M_statement_320 ?_
  refine zj_putI (g_M_224 _) d_M_statement_321 (tg_94 hE) (q_okE hE (by decide)) ?_
  refine j_aload_n d_M_statement_324 1 rfl ?_
  refine j_sipush (v := zI 260) d_M_statement_325 (by decide) ?_
  refine j_iload_n d_M_statement_328 3 rfl ?_
  refine j_iload d_M_statement_329 0 rfl ?_
  refine j_aload_n d_M_statement_331 1 rfl ?_
  refine j_getR 98 f_M_20 d_M_statement_332 (tg_94 (zs_E hE)) (q_okE (zs_E hE) (by decide)) (rf_94_5 (zs_E hE)) (by decide) ?_
  refine j_iload_n d_M_statement_335 2 rfl ?_
  obtain ⟨c14, h⟩ := h
  refine zj_iald (z σ 98 x2.toNat) d_M_statement_336 (tg_98 (zs_E hE)) (q_okE (zs_E hE) (by decide)) c14 (by decide) (Eq.trans (qs_o (by decide)) (q_z _ _ _)) ?_
  refine j_callV m_M_node [.int (zI 260), .int (zI x3), .int (zI y0), .int (zI (z σ 98 x2.toNat))] [] d 0 0 cV_M_270 d_M_statement_337 rfl rfl (tg_94 (zs_E hE)) (q_okE (zs_E hE) (by decide)) (Nat.le_of_ble_eq_true rfl) (Nat.le_refl _) (Nat.le_of_ble_eq_true rfl) (Nat.zero_le _) (Nat.zero_le _) h (fun v τ h => ?_) (fun x τ h => ?_)
  · obtain ⟨v, hv, e1, h⟩ := h; cases e1; exact j_sel [] rfl h
  · obtain ⟨v, hv, e1, h⟩ := h; cases e1
set_option maxHeartbeats 2000000 in
theorem b_M_statement_395 {ω : q_W} {σ : q_H} {Q : q_R → q_H → Prop} {d mc ms : Nat} {y0 : Int} {s : Nat} (hs : s = 110 ∨ s = 116) (rs0 : q_r σ 94 32 = s) (rs1 : q_r σ 94 33 = (s + 1)) (rs2 : q_r σ 94 34 = (s + 2)) (rs3 : q_r σ 94 35 = (s + 3)) (rs4 : q_r σ 94 36 = (s + 4)) (rs5 : q_r σ 94 37 = (s + 5)) (hE : q_E σ) (h : (Q (.inl (some (.int (zI y0)))) σ)) : J ω m_M_statement (d + 1) mc ms 0 0 395 [] [.int (zI y0)] σ Q := by
  exact zj_iret d_M_statement_395 rfl (Nat.zero_le _) (Nat.zero_le _) h
set_option maxHeartbeats 2000000 in
theorem b_M_statement_98 {ω : q_W} {σ : q_H} {Q : q_R → q_H → Prop} {d mc ms : Nat} {x1 : Int} {x3 : Int} {y0 : Int} {s : Nat} (hs : s = 110 ∨ s = 116) (rs0 : q_r σ 94 32 = s) (rs1 : q_r σ 94 33 = (s + 1)) (rs2 : q_r σ 94 34 = (s + 2)) (rs3 : q_r σ 94 35 = (s + 3)) (rs4 : q_r σ 94 36 = (s + 4)) (rs5 : q_r σ 94 37 = (s + 5)) (hE : q_E σ) (h : inR y0 ∧ q_imp (0 ≤ y0) ((0 ≤ y0 ∧ y0 < 400) ∧ q_imp ((z σ 103 y0.toNat) ≠ 1) ((J ω m_M_statement (d + 1) mc ms 0 0 131 [(0, .ref 94), (3, .int (zI x3)), (4, .int (zI y0))] [] σ Q)) ∧ q_imp ((z σ 103 y0.toNat) = 1) ((J ω m_M_found d 0 0 0 0 0 [(0, .ref 94), (1, .int (zI 4)), (2, .int (zI x1))] [] σ (q_kv (fun τ => J ω m_M_statement (d + 1) mc ms 0 0 131 [(0, .ref 94), (3, .int (zI x3)), (4, .int (zI y0))] [] τ Q))))) ∧ q_imp (y0 < 0) ((J ω m_M_found d 0 0 0 0 0 [(0, .ref 94), (1, .int (zI 2)), (2, .int (zI x1))] [] σ (q_kv (fun τ => J ω m_M_statement (d + 1) mc ms 0 0 111 [(0, .ref 94), (3, .int (zI x3)), (4, .int (zI y0))] [] τ Q))))) : J ω m_M_statement (d + 1) mc ms 0 0 98 [(0, .ref 94), (1, .int (zI x1)), (3, .int (zI x3))] [.int (zI y0)] σ Q := by
  refine j_istore (L' := [(4, .int (zI y0)), (0, .ref 94), (1, .int (zI x1)), (3, .int (zI x3))]) d_M_statement_98 (by decide) rfl ?_
  refine j_iload d_M_statement_100 0 rfl ?_
  obtain ⟨r15, h⟩ := h
  obtain ⟨h1, h2⟩ := h
  refine zj_if_ge 114 d_M_statement_102 (by decide) r15 (fun k16 => ?_) (fun k16 => ?_)
  · have h := h1 k16
    refine j_aload_n d_M_statement_114 1 rfl ?_
    refine j_getR 103 f_M_40 d_M_statement_115 (tg_94 hE) (q_okE hE (by decide)) (rf_94_14 hE) (by decide) ?_
    refine j_iload d_M_statement_118 0 rfl ?_
    obtain ⟨c17, h⟩ := h
    refine zj_iald (z σ 103 y0.toNat) d_M_statement_120 (tg_103 hE) (q_okE hE (by decide)) c17 (by decide) (q_z _ _ _) ?_
    refine j_iconst (v := zI 1) d_M_statement_121 (by decide) ?_
    obtain ⟨h1, h2⟩ := h
    refine zj_icmp_ne 131 d_M_statement_122 (by decide) (z_R _ _ _) ⟨by decide, by decide⟩ (fun k18 => ?_) (fun k18 => ?_)
    · have h := h1 k18
      exact j_sel [1, 3, 0] rfl h
    · have h := h2 k18
      refine j_aload_n d_M_statement_125 1 rfl ?_
      refine j_iconst (v := zI 4) d_M_statement_126 (by decide) ?_
      refine j_iload_n d_M_statement_127 2 rfl ?_
      refine j_callV m_M_found [.int (zI 4), .int (zI x1)] [] d 0 0 cV_M_255 d_M_statement_128 rfl rfl (tg_94 hE) (q_okE hE (by decide)) (Nat.le_of_ble_eq_true rfl) (Nat.le_refl _) (Nat.le_of_ble_eq_true rfl) (Nat.zero_le _) (Nat.zero_le _) h (fun v τ h => ?_) (fun x τ h => ?_)
      · obtain ⟨e1, h⟩ := h; cases e1; exact j_sel [1, 3, 0] rfl h
      · obtain ⟨e1, h⟩ := h; cases e1
  · have h := h2 k16
    refine j_aload_n d_M_statement_105 1 rfl ?_
    refine j_iconst (v := zI 2) d_M_statement_106 (by decide) ?_
    refine j_iload_n d_M_statement_107 2 rfl ?_
    refine j_callV m_M_found [.int (zI 2), .int (zI x1)] [] d 0 0 cV_M_255 d_M_statement_108 rfl rfl (tg_94 hE) (q_okE hE (by decide)) (Nat.le_of_ble_eq_true rfl) (Nat.le_refl _) (Nat.le_of_ble_eq_true rfl) (Nat.zero_le _) (Nat.zero_le _) h (fun v τ h => ?_) (fun x τ h => ?_)
    · obtain ⟨e1, h⟩ := h; cases e1; exact j_sel [1, 3, 0] rfl h
    · obtain ⟨e1, h⟩ := h; cases e1
set_option maxHeartbeats 2000000 in
theorem b_M_statement_340 {ω : q_W} {σ : q_H} {Q : q_R → q_H → Prop} {d mc ms : Nat} {y0 : Int} {s : Nat} (hs : s = 110 ∨ s = 116) (rs0 : q_r σ 94 32 = s) (rs1 : q_r σ 94 33 = (s + 1)) (rs2 : q_r σ 94 34 = (s + 2)) (rs3 : q_r σ 94 35 = (s + 3)) (rs4 : q_r σ 94 36 = (s + 4)) (rs5 : q_r σ 94 37 = (s + 5)) (hE : q_E σ) (h : (Q (.inl (some (.int (zI y0)))) σ)) : J ω m_M_statement (d + 1) mc ms 0 0 340 [] [.int (zI y0)] σ Q := by
  exact zj_iret d_M_statement_340 rfl (Nat.zero_le _) (Nat.zero_le _) h
set_option maxHeartbeats 2000000 in
theorem b_M_statement_131 {ω : q_W} {σ : q_H} {Q : q_R → q_H → Prop} {d mc ms : Nat} {x3 : Int} {x4 : Int} {s : Nat} (hs : s = 110 ∨ s = 116) (rs0 : q_r σ 94 32 = s) (rs1 : q_r σ 94 33 = (s + 1)) (rs2 : q_r σ 94 34 = (s + 2)) (rs3 : q_r σ 94 35 = (s + 3)) (rs4 : q_r σ 94 36 = (s + 4)) (rs5 : q_r σ 94 37 = (s + 5)) (hE : q_E σ) (h : inR x4 ∧ q_imp (0 ≤ x4) ((0 ≤ x4 ∧ x4 < 400) ∧ (J ω m_M_statement (d + 1) mc ms 0 0 151 [(0, .ref 94), (3, .int (zI x3)), (4, .int (zI x4))] [.int (zI (z σ 104 x4.toNat)), .int (zI 276), .ref 94] σ Q)) ∧ q_imp (x4 < 0) ((J ω m_M_statement (d + 1) mc ms 0 0 151 [(0, .ref 94), (3, .int (zI x3)), (4, .int (zI x4))] [.int (zI 0), .int (zI 276), .ref 94] σ Q))) : J ω m_M_statement (d + 1) mc ms 0 0 131 [(0, .ref 94), (3, .int (zI x3)), (4, .int (zI x4))] [] σ Q := by
  refine j_aload_n d_M_statement_131 0 rfl ?_
  refine j_sipush (v := zI 276) d_M_statement_132 (by decide) ?_
  refine j_iload d_M_statement_135 2 rfl ?_
  obtain ⟨r19, h⟩ := h
  obtain ⟨h1, h2⟩ := h
  refine zj_if_ge 144 d_M_statement_137 (by decide) r19 (fun k20 => ?_) (fun k20 => ?_)
  · have h := h1 k20
    refine j_aload_n d_M_statement_144 0 rfl ?_
    refine j_getR 104 f_M_43 d_M_statement_145 (tg_94 hE) (q_okE hE (by decide)) (rf_94_15 hE) (by decide) ?_
    refine j_iload d_M_statement_148 2 rfl ?_
    obtain ⟨c21, h⟩ := h
    refine zj_iald (z σ 104 x4.toNat) d_M_statement_150 (tg_104 hE) (q_okE hE (by decide)) c21 (by decide) (q_z _ _ _) ?_
    exact j_sel [0, 1, 2] rfl h
  · have h := h2 k20
    refine j_iconst (v := zI 0) d_M_statement_140 (by decide) ?_
    refine j_goto 151 d_M_statement_141 (by decide) ?_
    exact j_sel [0, 1, 2] rfl h
set_option maxHeartbeats 2000000 in
theorem b_M_statement_111 {ω : q_W} {σ : q_H} {Q : q_R → q_H → Prop} {d mc ms : Nat} {x3 : Int} {x4 : Int} {s : Nat} (hs : s = 110 ∨ s = 116) (rs0 : q_r σ 94 32 = s) (rs1 : q_r σ 94 33 = (s + 1)) (rs2 : q_r σ 94 34 = (s + 2)) (rs3 : q_r σ 94 35 = (s + 3)) (rs4 : q_r σ 94 36 = (s + 4)) (rs5 : q_r σ 94 37 = (s + 5)) (hE : q_E σ) (h : (J ω m_M_statement (d + 1) mc ms 0 0 131 [(0, .ref 94), (3, .int (zI x3)), (4, .int (zI x4))] [] σ Q)) : J ω m_M_statement (d + 1) mc ms 0 0 111 [(0, .ref 94), (3, .int (zI x3)), (4, .int (zI x4))] [] σ Q := by
  refine j_goto 131 d_M_statement_111 (by decide) ?_
  exact j_sel [0, 1, 2] rfl h
set_option maxHeartbeats 2000000 in
theorem b_M_statement_151 {ω : q_W} {σ : q_H} {Q : q_R → q_H → Prop} {d mc ms : Nat} {x3 : Int} {x4 : Int} {y0 : Int} {y1 : Int} {s : Nat} (hs : s = 110 ∨ s = 116) (rs0 : q_r σ 94 32 = s) (rs1 : q_r σ 94 33 = (s + 1)) (rs2 : q_r σ 94 34 = (s + 2)) (rs3 : q_r σ 94 35 = (s + 3)) (rs4 : q_r σ 94 36 = (s + 4)) (rs5 : q_r σ 94 37 = (s + 5)) (hE : q_E σ) (h : inR x4 ∧ q_imp (0 ≤ x4) ((0 ≤ x4 ∧ x4 < 400) ∧ (J ω m_M_node d 0 0 0 0 0 [(0, .ref 94), (1, .int (zI y1)), (2, .int (zI y0)), (3, .int (zI x3)), (4, .int (zI (z σ 105 x4.toNat)))] [] σ (q_ki (fun v τ => J ω m_M_statement (d + 1) mc ms 0 0 171 [] [.int (zI v)] τ Q)))) ∧ q_imp (x4 < 0) ((J ω m_M_node d 0 0 0 0 0 [(0, .ref 94), (1, .int (zI y1)), (2, .int (zI y0)), (3, .int (zI x3)), (4, .int (zI 0))] [] σ (q_ki (fun v τ => J ω m_M_statement (d + 1) mc ms 0 0 171 [] [.int (zI v)] τ Q))))) : J ω m_M_statement (d + 1) mc ms 0 0 151 [(0, .ref 94), (3, .int (zI x3)), (4, .int (zI x4))] [.int (zI y0), .int (zI y1), .ref 94] σ Q := by
  refine j_iload_n d_M_statement_151 1 rfl ?_
  refine j_iload d_M_statement_152 2 rfl ?_
  obtain ⟨r22, h⟩ := h
  obtain ⟨h1, h2⟩ := h
  refine zj_if_ge 161 d_M_statement_154 (by decide) r22 (fun k23 => ?_) (fun k23 => ?_)
  · have h := h1 k23
    refine j_aload_n d_M_statement_161 0 rfl ?_
    refine j_getR 105 f_M_46 d_M_statement_162 (tg_94 hE) (q_okE hE (by decide)) (rf_94_16 hE) (by decide) ?_
    refine j_iload d_M_statement_165 2 rfl ?_
    obtain ⟨c24, h⟩ := h
    refine zj_iald (z σ 105 x4.toNat) d_M_statement_167 (tg_105 hE) (q_okE hE (by decide)) c24 (by decide) (q_z _ _ _) ?_
    refine j_callV m_M_node [.int (zI y1), .int (zI y0), .int (zI x3), .int (zI (z σ 105 x4.toNat))] [] d 0 0 cV_M_270 d_M_statement_168 rfl rfl (tg_94 hE) (q_okE hE (by decide)) (Nat.le_of_ble_eq_true rfl) (Nat.le_refl _) (Nat.le_of_ble_eq_true rfl) (Nat.zero_le _) (Nat.zero_le _) h (fun v τ h => ?_) (fun x τ h => ?_)
    · obtain ⟨v, hv, e1, h⟩ := h; cases e1; exact j_sel [] rfl h
    · obtain ⟨v, hv, e1, h⟩ := h; cases e1
  · have h := h2 k23
    refine j_iconst (v := zI 0) d_M_statement_157 (by decide) ?_
    refine j_goto 168 d_M_statement_158 (by decide) ?_
    refine j_callV m_M_node [.int (zI y1), .int (zI y0), .int (zI x3), .int (zI 0)] [] d 0 0 cV_M_270 d_M_statement_168 rfl rfl (tg_94 hE) (q_okE hE (by decide)) (Nat.le_of_ble_eq_true rfl) (Nat.le_refl _) (Nat.le_of_ble_eq_true rfl) (Nat.zero_le _) (Nat.zero_le _) h (fun v τ h => ?_) (fun x τ h => ?_)
    · obtain ⟨v, hv, e1, h⟩ := h; cases e1; exact j_sel [] rfl h
    · obtain ⟨v, hv, e1, h⟩ := h; cases e1
set_option maxHeartbeats 2000000 in
theorem b_M_statement_171 {ω : q_W} {σ : q_H} {Q : q_R → q_H → Prop} {d mc ms : Nat} {y0 : Int} {s : Nat} (hs : s = 110 ∨ s = 116) (rs0 : q_r σ 94 32 = s) (rs1 : q_r σ 94 33 = (s + 1)) (rs2 : q_r σ 94 34 = (s + 2)) (rs3 : q_r σ 94 35 = (s + 3)) (rs4 : q_r σ 94 36 = (s + 4)) (rs5 : q_r σ 94 37 = (s + 5)) (hE : q_E σ) (h : (Q (.inl (some (.int (zI y0)))) σ)) : J ω m_M_statement (d + 1) mc ms 0 0 171 [] [.int (zI y0)] σ Q := by
  exact zj_iret d_M_statement_171 rfl (Nat.zero_le _) (Nat.zero_le _) h
set_option maxHeartbeats 2000000 in
theorem b_M_expr_0 {ω : q_W} {σ : q_H} {Q : q_R → q_H → Prop} {d mc ms : Nat}  {s : Nat} (hs : s = 110 ∨ s = 116) (rs0 : q_r σ 94 32 = s) (rs1 : q_r σ 94 33 = (s + 1)) (rs2 : q_r σ 94 34 = (s + 2)) (rs3 : q_r σ 94 35 = (s + 3)) (rs4 : q_r σ 94 36 = (s + 4)) (rs5 : q_r σ 94 37 = (s + 5)) (hE : q_E σ) (h : (J ω m_M_level d 0 0 0 0 0 [(0, .ref 94), (1, .int (zI 1))] [] σ (q_ox (q_ki (fun v τ => J ω m_M_expr (d + 1) mc ms 0 0 5 [(0, .ref 94)] [.int (zI v)] τ Q)) (fun x τ => Q (.inr x) τ)))) : J ω m_M_expr (d + 1) mc ms 0 0 0 [(0, .ref 94)] [] σ Q := by
  refine j_aload_n d_M_expr_0 0 rfl ?_
  refine j_iconst (v := zI 1) d_M_expr_1 (by decide) ?_
  refine j_callV m_M_level [.int (zI 1)] [] d 0 0 cV_M_283 d_M_expr_2 rfl rfl (tg_94 hE) (q_okE hE (by decide)) (Nat.le_of_ble_eq_true rfl) (Nat.le_refl _) (Nat.le_of_ble_eq_true rfl) (Nat.zero_le _) (Nat.zero_le _) h (fun v τ h => ?_) (fun x τ h => ?_)
  · rcases h with h | ⟨x, e1, h⟩
    · obtain ⟨v, hv, e1, h⟩ := h; cases e1; exact j_sel [0] rfl h
    · cases e1
  · rcases h with h | ⟨y, e1, h⟩
    · obtain ⟨v, hv, e1, h⟩ := h; cases e1
    · cases e1; exact jt_out rfl (Nat.zero_le _) (Nat.zero_le _) h
set_option maxHeartbeats 2000000 in
theorem b_M_expr_5 {ω : q_W} {σ : q_H} {Q : q_R → q_H → Prop} {d mc ms : Nat} {y0 : Int} {s : Nat} (hs : s = 110 ∨ s = 116) (rs0 : q_r σ 94 32 = s) (rs1 : q_r σ 94 33 = (s + 1)) (rs2 : q_r σ 94 34 = (s + 2)) (rs3 : q_r σ 94 35 = (s + 3)) (rs4 : q_r σ 94 36 = (s + 4)) (rs5 : q_r σ 94 37 = (s + 5)) (hE : q_E σ) (h : (0 ≤ (z σ 94 8) ∧ (z σ 94 8) < 4098) ∧ q_imp ((z σ 96 (z σ 94 8).toNat) = 63) ((J ω m_M_taken d 0 0 0 0 0 [(0, .ref 94)] [] σ (q_ox (q_ki (fun v τ => J ω m_M_expr (d + 1) mc ms 0 0 21 [(0, .ref 94), (1, .int (zI y0))] [.int (zI v)] τ Q)) (fun x τ => Q (.inr x) τ)))) ∧ q_imp ((z σ 96 (z σ 94 8).toNat) ≠ 63) ((Q (.inl (some (.int (zI y0)))) σ))) : J ω m_M_expr (d + 1) mc ms 0 0 5 [(0, .ref 94)] [.int (zI y0)] σ Q := by
  refine j_istore_n (L' := [(1, .int (zI y0)), (0, .ref 94)]) d_M_expr_5 (by decide) rfl ?_
  refine j_aload_n d_M_expr_6 1 rfl ?_
  obtain ⟨c1, h⟩ := h
  refine j_callV m_M_kind [] [] 0 0 0 cV_M_227 d_M_expr_7 rfl rfl (tg_94 hE) (q_okE hE (by decide)) (Nat.le_of_ble_eq_true rfl) (Nat.succ_le_succ (Nat.zero_le _)) (Nat.le_of_ble_eq_true rfl) (Nat.zero_le _) (Nat.zero_le _) (c_M_kind2 hE c1 (q_z _ _ _) (q_z _ _ _)) (fun v τ h => ?_) (fun x τ h => absurd h.1 (by simp))
  obtain ⟨e1, e2⟩ := h; cases e1; rw [e2]
  refine j_bipush (v := zI 63) d_M_expr_10 (by decide) ?_
  obtain ⟨h1, h2⟩ := h
  refine zj_icmp_eq 17 d_M_expr_12 (by decide) (z_R _ _ _) ⟨by decide, by decide⟩ (fun k2 => ?_) (fun k2 => ?_)
  · have h := h1 k2
    refine j_aload_n d_M_expr_17 1 rfl ?_
    refine j_callV m_M_taken [] [] d 0 0 cV_M_234 d_M_expr_18 rfl rfl (tg_94 hE) (q_okE hE (by decide)) (Nat.le_of_ble_eq_true rfl) (Nat.le_refl _) (Nat.le_of_ble_eq_true rfl) (Nat.zero_le _) (Nat.zero_le _) h (fun v τ h => ?_) (fun x τ h => ?_)
    · rcases h with h | ⟨x, e1, h⟩
      · obtain ⟨v, hv, e1, h⟩ := h; cases e1; exact j_sel [1, 0] rfl h
      · cases e1
    · rcases h with h | ⟨y, e1, h⟩
      · obtain ⟨v, hv, e1, h⟩ := h; cases e1
      · cases e1; exact jt_out rfl (Nat.zero_le _) (Nat.zero_le _) h
  · have h := h2 k2
    refine j_iload_n d_M_expr_15 0 rfl ?_
    exact zj_iret d_M_expr_16 rfl (Nat.zero_le _) (Nat.zero_le _) h
set_option maxHeartbeats 2000000 in
theorem b_M_expr_21 {ω : q_W} {σ : q_H} {Q : q_R → q_H → Prop} {d mc ms : Nat} {x1 : Int} {y0 : Int} {s : Nat} (hs : s = 110 ∨ s = 116) (rs0 : q_r σ 94 32 = s) (rs1 : q_r σ 94 33 = (s + 1)) (rs2 : q_r σ 94 34 = (s + 2)) (rs3 : q_r σ 94 35 = (s + 3)) (rs4 : q_r σ 94 36 = (s + 4)) (rs5 : q_r σ 94 37 = (s + 5)) (hE : q_E σ) (h : (J ω m_M_expr d 0 0 0 0 0 [(0, .ref 94)] [] (zs σ 94 9 ((z σ 94 9) + 1)) (q_ox (q_ki (fun v τ => J ω m_M_expr (d + 1) mc ms 0 0 36 [(0, .ref 94), (1, .int (zI x1))] [.int (zI v)] τ Q)) (fun x τ => Q (.inr x) τ)))) : J ω m_M_expr (d + 1) mc ms 0 0 21 [(0, .ref 94), (1, .int (zI x1))] [.int (zI y0)] σ Q := by
  refine j_istore_n (L' := [(2, .int (zI y0)), (0, .ref 94), (1, .int (zI x1))]) d_M_expr_21 (by decide) rfl ?_
  refine j_aload_n d_M_expr_22 1 rfl ?_
  refine j_dup d_M_expr_23 rfl ?_
  refine zj_getI (z σ 94 9) f_M_224 d_M_expr_24 (tg_94 hE) (q_okE hE (by decide)) (q_z _ _ _) ?_
  refine j_iconst (v := zI 1) d_M_expr_27 (by decide) ?_
  refine zj_iadd ((z σ 94 9) + 1) (by omega) d_M_expr_28 ?_
  refine zj_putI (g_M_224 _) d_M_expr_29 (tg_94 hE) (q_okE hE (by decide)) ?_
  refine j_aload_n d_M_expr_32 1 rfl ?_
  refine j_callV m_M_expr [] [] d 0 0 cV_M_267 d_M_expr_33 rfl rfl (tg_94 (zs_E hE)) (q_okE (zs_E hE) (by decide)) (Nat.le_of_ble_eq_true rfl) (Nat.le_refl _) (Nat.le_of_ble_eq_true rfl) (Nat.zero_le _) (Nat.zero_le _) h (fun v τ h => ?_) (fun x τ h => ?_)
  · rcases h with h | ⟨x, e1, h⟩
    · obtain ⟨v, hv, e1, h⟩ := h; cases e1; exact j_sel [1, 2] rfl h
    · cases e1
  · rcases h with h | ⟨y, e1, h⟩
    · obtain ⟨v, hv, e1, h⟩ := h; cases e1
    · cases e1; exact jt_out rfl (Nat.zero_le _) (Nat.zero_le _) h
set_option maxHeartbeats 2000000 in
theorem b_M_expr_36 {ω : q_W} {σ : q_H} {Q : q_R → q_H → Prop} {d mc ms : Nat} {x1 : Int} {y0 : Int} {s : Nat} (hs : s = 110 ∨ s = 116) (rs0 : q_r σ 94 32 = s) (rs1 : q_r σ 94 33 = (s + 1)) (rs2 : q_r σ 94 34 = (s + 2)) (rs3 : q_r σ 94 35 = (s + 3)) (rs4 : q_r σ 94 36 = (s + 4)) (rs5 : q_r σ 94 37 = (s + 5)) (hE : q_E σ) (h : (J ω m_M_expect d 0 0 0 0 0 [(0, .ref 94), (1, .int (zI 58))] [] (zs σ 94 9 ((z σ 94 9) - 1)) (q_ox (q_ki (fun v τ => J ω m_M_expr (d + 1) mc ms 0 0 53 [(0, .ref 94), (1, .int (zI x1)), (3, .int (zI y0))] [.int (zI v)] τ Q)) (fun x τ => Q (.inr x) τ)))) : J ω m_M_expr (d + 1) mc ms 0 0 36 [(0, .ref 94), (1, .int (zI x1))] [.int (zI y0)] σ Q := by
  refine j_istore_n (L' := [(3, .int (zI y0)), (0, .ref 94), (1, .int (zI x1))]) d_M_expr_36 (by decide) rfl ?_
  refine j_aload_n d_M_expr_37 1 rfl ?_
  refine j_dup d_M_expr_38 rfl ?_
  refine zj_getI (z σ 94 9) f_M_224 d_M_expr_39 (tg_94 hE) (q_okE hE (by decide)) (q_z _ _ _) ?_
  refine j_iconst (v := zI 1) d_M_expr_42 (by decide) ?_
  refine zj_isub ((z σ 94 9) - 1) (by omega) d_M_expr_43 ?_
  refine zj_putI (g_M_224 _) d_M_expr_44 (tg_94 hE) (q_okE hE (by decide)) ?_
  refine j_aload_n d_M_expr_47 1 rfl ?_
  refine j_bipush (v := zI 58) d_M_expr_48 (by decide) ?_
  refine j_callV m_M_expect [.int (zI 58)] [] d 0 0 cV_M_249 d_M_expr_50 rfl rfl (tg_94 (zs_E hE)) (q_okE (zs_E hE) (by decide)) (Nat.le_of_ble_eq_true rfl) (Nat.le_refl _) (Nat.le_of_ble_eq_true rfl) (Nat.zero_le _) (Nat.zero_le _) h (fun v τ h => ?_) (fun x τ h => ?_)
  · rcases h with h | ⟨x, e1, h⟩
    · obtain ⟨v, hv, e1, h⟩ := h; cases e1; exact j_sel [1, 2, 0] rfl h
    · cases e1
  · rcases h with h | ⟨y, e1, h⟩
    · obtain ⟨v, hv, e1, h⟩ := h; cases e1
    · cases e1; exact jt_out rfl (Nat.zero_le _) (Nat.zero_le _) h
set_option maxHeartbeats 2000000 in
theorem b_M_expr_53 {ω : q_W} {σ : q_H} {Q : q_R → q_H → Prop} {d mc ms : Nat} {x1 : Int} {x3 : Int} {y0 : Int} {s : Nat} (hs : s = 110 ∨ s = 116) (rs0 : q_r σ 94 32 = s) (rs1 : q_r σ 94 33 = (s + 1)) (rs2 : q_r σ 94 34 = (s + 2)) (rs3 : q_r σ 94 35 = (s + 3)) (rs4 : q_r σ 94 36 = (s + 4)) (rs5 : q_r σ 94 37 = (s + 5)) (hE : q_E σ) (h : (J ω m_M_expr d 0 0 0 0 0 [(0, .ref 94)] [] (zs σ 94 9 ((z σ 94 9) + 1)) (q_ox (q_ki (fun v τ => J ω m_M_expr (d + 1) mc ms 0 0 68 [(0, .ref 94), (1, .int (zI x1)), (3, .int (zI x3))] [.int (zI v)] τ Q)) (fun x τ => Q (.inr x) τ)))) : J ω m_M_expr (d + 1) mc ms 0 0 53 [(0, .ref 94), (1, .int (zI x1)), (3, .int (zI x3))] [.int (zI y0)] σ Q := by
  refine j_istore_n (L' := [(2, .int (zI y0)), (0, .ref 94), (1, .int (zI x1)), (3, .int (zI x3))]) d_M_expr_53 (by decide) rfl ?_
  refine j_aload_n d_M_expr_54 1 rfl ?_
  refine j_dup d_M_expr_55 rfl ?_
  refine zj_getI (z σ 94 9) f_M_224 d_M_expr_56 (tg_94 hE) (q_okE hE (by decide)) (q_z _ _ _) ?_
  refine j_iconst (v := zI 1) d_M_expr_59 (by decide) ?_
  refine zj_iadd ((z σ 94 9) + 1) (by omega) d_M_expr_60 ?_
  refine zj_putI (g_M_224 _) d_M_expr_61 (tg_94 hE) (q_okE hE (by decide)) ?_
  refine j_aload_n d_M_expr_64 1 rfl ?_
  refine j_callV m_M_expr [] [] d 0 0 cV_M_267 d_M_expr_65 rfl rfl (tg_94 (zs_E hE)) (q_okE (zs_E hE) (by decide)) (Nat.le_of_ble_eq_true rfl) (Nat.le_refl _) (Nat.le_of_ble_eq_true rfl) (Nat.zero_le _) (Nat.zero_le _) h (fun v τ h => ?_) (fun x τ h => ?_)
  · rcases h with h | ⟨x, e1, h⟩
    · obtain ⟨v, hv, e1, h⟩ := h; cases e1; exact j_sel [1, 2, 3] rfl h
    · cases e1
  · rcases h with h | ⟨y, e1, h⟩
    · obtain ⟨v, hv, e1, h⟩ := h; cases e1
    · cases e1; exact jt_out rfl (Nat.zero_le _) (Nat.zero_le _) h
set_option maxHeartbeats 2000000 in
theorem b_M_expr_68 {ω : q_W} {σ : q_H} {Q : q_R → q_H → Prop} {d mc ms : Nat} {x1 : Int} {x3 : Int} {y0 : Int} {s : Nat} (hs : s = 110 ∨ s = 116) (rs0 : q_r σ 94 32 = s) (rs1 : q_r σ 94 33 = (s + 1)) (rs2 : q_r σ 94 34 = (s + 2)) (rs3 : q_r σ 94 35 = (s + 3)) (rs4 : q_r σ 94 36 = (s + 4)) (rs5 : q_r σ 94 37 = (s + 5)) (hE : q_E σ) (h : (J ω m_M_node d 0 0 0 0 0 [(0, .ref 94), (1, .int (zI 277)), (2, .int (zI x1)), (3, .int (zI x3)), (4, .int (zI y0))] [] (zs σ 94 9 ((z σ 94 9) - 1)) (q_ki (fun v τ => J ω m_M_expr (d + 1) mc ms 0 0 91 [(0, .ref 94), (3, .int (zI x3)), (4, .int (zI y0))] [.int (zI v)] τ Q)))) : J ω m_M_expr (d + 1) mc ms 0 0 68 [(0, .ref 94), (1, .int (zI x1)), (3, .int (zI x3))] [.int (zI y0)] σ Q := by
  refine j_istore (L' := [(4, .int (zI y0)), (0, .ref 94), (1, .int (zI x1)), (3, .int (zI x3))]) d_M_expr_68 (by decide) rfl ?_
  refine j_aload_n d_M_expr_70 1 rfl ?_
  refine j_dup d_M_expr_71 rfl ?_
  refine zj_getI (z σ 94 9) f_M_224 d_M_expr_72 (tg_94 hE) (q_okE hE (by decide)) (q_z _ _ _) ?_
  refine j_iconst (v := zI 1) d_M_expr_75 (by decide) ?_
  refine zj_isub ((z σ 94 9) - 1) (by omega) d_M_expr_76 ?_
  refine zj_putI (g_M_224 _) d_M_expr_77 (tg_94 hE) (q_okE hE (by decide)) ?_
  refine j_aload_n d_M_expr_80 1 rfl ?_
  refine j_sipush (v := zI 277) d_M_expr_81 (by decide) ?_
  refine j_iload_n d_M_expr_84 2 rfl ?_
  refine j_iload_n d_M_expr_85 3 rfl ?_
  refine j_iload d_M_expr_86 0 rfl ?_
  refine j_callV m_M_node [.int (zI 277), .int (zI x1), .int (zI x3), .int (zI y0)] [] d 0 0 cV_M_270 d_M_expr_88 rfl rfl (tg_94 (zs_E hE)) (q_okE (zs_E hE) (by decide)) (Nat.le_of_ble_eq_true rfl) (Nat.le_refl _) (Nat.le_of_ble_eq_true rfl) (Nat.zero_le _) (Nat.zero_le _) h (fun v τ h => ?_) (fun x τ h => ?_)
  · obtain ⟨v, hv, e1, h⟩ := h; cases e1; exact j_sel [1, 3, 0] rfl h
  · obtain ⟨v, hv, e1, h⟩ := h; cases e1
set_option maxHeartbeats 2000000 in
theorem b_M_expr_91 {ω : q_W} {σ : q_H} {Q : q_R → q_H → Prop} {d mc ms : Nat} {x3 : Int} {x4 : Int} {y0 : Int} {s : Nat} (hs : s = 110 ∨ s = 116) (rs0 : q_r σ 94 32 = s) (rs1 : q_r σ 94 33 = (s + 1)) (rs2 : q_r σ 94 34 = (s + 2)) (rs3 : q_r σ 94 35 = (s + 3)) (rs4 : q_r σ 94 36 = (s + 4)) (rs5 : q_r σ 94 37 = (s + 5)) (hE : q_E σ) (h : (0 ≤ x3 ∧ x3 < 9000) ∧ (0 ≤ x4 ∧ x4 < 9000) ∧ (0 ≤ y0 ∧ y0 < 9000) ∧ (Q (.inl (some (.int (zI y0)))) (zs σ (s + 5) y0.toNat (max (z σ (s + 5) x3.toNat) (z σ (s + 5) x4.toNat))))) : J ω m_M_expr (d + 1) mc ms 0 0 91 [(0, .ref 94), (3, .int (zI x3)), (4, .int (zI x4))] [.int (zI y0)] σ Q := by
  refine j_istore (L' := [(5, .int (zI y0)), (0, .ref 94), (3, .int (zI x3)), (4, .int (zI x4))]) d_M_expr_91 (by decide) rfl ?_
  refine j_aload_n d_M_expr_93 1 rfl ?_
  refine j_getR (s + 5) f_M_76 d_M_expr_94 (tg_94 hE) (q_okE hE (by decide)) (rs5) (by omega) ?_
  refine j_iload d_M_expr_97 0 rfl ?_
  refine j_aload_n d_M_expr_99 1 rfl ?_
  refine j_getR (s + 5) f_M_76 d_M_expr_100 (tg_94 hE) (q_okE hE (by decide)) (rs5) (by omega) ?_
  refine j_iload_n d_M_expr_103 2 rfl ?_
  obtain ⟨c3, h⟩ := h
  refine zj_iald (z σ (s + 5) x3.toNat) d_M_expr_104 (tY_s_5 hE hs) (q_okE hE (by omega)) c3 (by decide) (q_z _ _ _) ?_
  refine j_aload_n d_M_expr_105 1 rfl ?_
  refine j_getR (s + 5) f_M_76 d_M_expr_106 (tg_94 hE) (q_okE hE (by decide)) (rs5) (by omega) ?_
  refine j_iload d_M_expr_109 3 rfl ?_
  obtain ⟨c4, h⟩ := h
  refine zj_iald (z σ (s + 5) x4.toNat) d_M_expr_111 (tY_s_5 hE hs) (q_okE hE (by omega)) c4 (by decide) (q_z _ _ _) ?_
  refine zj_max (List.mem_of_getElem? (i := 1915) (by decide +kernel)) d_M_expr_112 (Nat.succ_le_succ (Nat.zero_le _)) (Nat.le_of_ble_eq_true rfl) (Nat.zero_le _) (Nat.zero_le _) (z_R _ _ _) (z_R _ _ _) ?_
  obtain ⟨c5, h⟩ := h
  refine zj_iast d_M_expr_115 (tY_s_5 hE hs) (q_okE hE (by omega)) c5 (by decide) ?_
  refine j_iload d_M_expr_116 0 rfl ?_
  exact zj_iret d_M_expr_118 rfl (Nat.zero_le _) (Nat.zero_le _) h
set_option maxHeartbeats 2000000 in
theorem b_M_level_0 {ω : q_W} {σ : q_H} {Q : q_R → q_H → Prop} {d mc ms : Nat} {x1 : Int} {s : Nat} (hs : s = 110 ∨ s = 116) (rs0 : q_r σ 94 32 = s) (rs1 : q_r σ 94 33 = (s + 1)) (rs2 : q_r σ 94 34 = (s + 2)) (rs3 : q_r σ 94 35 = (s + 3)) (rs4 : q_r σ 94 36 = (s + 4)) (rs5 : q_r σ 94 37 = (s + 5)) (hE : q_E σ) (h : inR x1 ∧ q_imp (x1 ≠ 11) ((J ω m_M_level d 0 0 0 0 0 [(0, .ref 94), (1, .int (zI (x1 + 1)))] [] σ (q_ox (q_ki (fun v τ => J ω m_M_level (d + 1) mc ms 0 0 18 [(0, .ref 94), (1, .int (zI x1))] [.int (zI v)] τ Q)) (fun x τ => Q (.inr x) τ)))) ∧ q_imp (x1 = 11) ((J ω m_M_unary d 0 0 0 0 0 [(0, .ref 94)] [] σ (q_ox (q_ki (fun v τ => J ω m_M_level (d + 1) mc ms 0 0 10 [] [.int (zI v)] τ Q)) (fun x τ => Q (.inr x) τ))))) : J ω m_M_level (d + 1) mc ms 0 0 0 [(0, .ref 94), (1, .int (zI x1))] [] σ Q := by
  refine j_iload_n d_M_level_0 1 rfl ?_
  refine j_bipush (v := zI 11) d_M_level_1 (by decide) ?_
  obtain ⟨r1, h⟩ := h
  obtain ⟨h1, h2⟩ := h
  refine zj_icmp_ne 11 d_M_level_3 (by decide) r1 ⟨by decide, by decide⟩ (fun k2 => ?_) (fun k2 => ?_)
  · have h := h1 k2
    refine j_aload_n d_M_level_11 0 rfl ?_
    refine j_iload_n d_M_level_12 1 rfl ?_
    refine j_iconst (v := zI 1) d_M_level_13 (by decide) ?_
    refine zj_iadd (x1 + 1) (by omega) d_M_level_14 ?_
    refine j_callV m_M_level [.int (zI (x1 + 1))] [] d 0 0 cV_M_283 d_M_level_15 rfl rfl (tg_94 hE) (q_okE hE (by decide)) (Nat.le_of_ble_eq_true rfl) (Nat.le_refl _) (Nat.le_of_ble_eq_true rfl) (Nat.zero_le _) (Nat.zero_le _) h (fun v τ h => ?_) (fun x τ h => ?_)
    · rcases h with h | ⟨x, e1, h⟩
      · obtain ⟨v, hv, e1, h⟩ := h; cases e1; exact j_sel [0, 1] rfl h
      · cases e1
    · rcases h with h | ⟨y, e1, h⟩
      · obtain ⟨v, hv, e1, h⟩ := h; cases e1
      · cases e1; exact jt_out rfl (Nat.zero_le _) (Nat.zero_le _) h
  · have h := h2 k2
    refine j_aload_n d_M_level_6 0 rfl ?_
    refine j_callV m_M_unary [] [] d 0 0 cV_M_289 d_M_level_7 rfl rfl (tg_94 hE) (q_okE hE (by decide)) (Nat.le_of_ble_eq_true rfl) (Nat.le_refl _) (Nat.le_of_ble_eq_true rfl) (Nat.zero_le _) (Nat.zero_le _) h (fun v τ h => ?_) (fun x τ h => ?_)
    · rcases h with h | ⟨x, e1, h⟩
      · obtain ⟨v, hv, e1, h⟩ := h; cases e1; exact j_sel [] rfl h
      · cases e1
    · rcases h with h | ⟨y, e1, h⟩
      · obtain ⟨v, hv, e1, h⟩ := h; cases e1
      · cases e1; exact jt_out rfl (Nat.zero_le _) (Nat.zero_le _) h
set_option maxHeartbeats 2000000 in
theorem b_M_level_18 {ω : q_W} {σ : q_H} {Q : q_R → q_H → Prop} {d mc ms : Nat} {x1 : Int} {y0 : Int} {s : Nat} (hs : s = 110 ∨ s = 116) (rs0 : q_r σ 94 32 = s) (rs1 : q_r σ 94 33 = (s + 1)) (rs2 : q_r σ 94 34 = (s + 2)) (rs3 : q_r σ 94 35 = (s + 3)) (rs4 : q_r σ 94 36 = (s + 4)) (rs5 : q_r σ 94 37 = (s + 5)) (hE : q_E σ) (h : (J ω m_M_level (d + 1) mc ms 0 0 19 [(0, .ref 94), (1, .int (zI x1)), (2, .int (zI y0))] [] σ Q)) : J ω m_M_level (d + 1) mc ms 0 0 18 [(0, .ref 94), (1, .int (zI x1))] [.int (zI y0)] σ Q := by
  refine j_istore_n (L' := [(2, .int (zI y0)), (0, .ref 94), (1, .int (zI x1))]) d_M_level_18 (by decide) rfl ?_
  exact j_sel [1, 2, 0] rfl h
set_option maxHeartbeats 2000000 in
theorem b_M_level_10 {ω : q_W} {σ : q_H} {Q : q_R → q_H → Prop} {d mc ms : Nat} {y0 : Int} {s : Nat} (hs : s = 110 ∨ s = 116) (rs0 : q_r σ 94 32 = s) (rs1 : q_r σ 94 33 = (s + 1)) (rs2 : q_r σ 94 34 = (s + 2)) (rs3 : q_r σ 94 35 = (s + 3)) (rs4 : q_r σ 94 36 = (s + 4)) (rs5 : q_r σ 94 37 = (s + 5)) (hE : q_E σ) (h : (Q (.inl (some (.int (zI y0)))) σ)) : J ω m_M_level (d + 1) mc ms 0 0 10 [] [.int (zI y0)] σ Q := by
  exact zj_iret d_M_level_10 rfl (Nat.zero_le _) (Nat.zero_le _) h
set_option maxHeartbeats 2000000 in
theorem b_M_level_19 {ω : q_W} {σ : q_H} {Q : q_R → q_H → Prop} {d mc ms : Nat} {x1 : Int} {x2 : Int} {s : Nat} (hs : s = 110 ∨ s = 116) (rs0 : q_r σ 94 32 = s) (rs1 : q_r σ 94 33 = (s + 1)) (rs2 : q_r σ 94 34 = (s + 2)) (rs3 : q_r σ 94 35 = (s + 3)) (rs4 : q_r σ 94 36 = (s + 4)) (rs5 : q_r σ 94 37 = (s + 5)) (hE : q_E σ) (h : (0 ≤ (z σ 94 8) ∧ (z σ 94 8) < 4098) ∧ (J ω m_M_levelOf d 0 0 0 0 0 [(0, .int (zI (z σ 96 (z σ 94 8).toNat)))] [] σ (q_ki (fun v τ => J ω m_M_level (d + 1) mc ms 0 0 26 [(0, .ref 94), (1, .int (zI x1)), (2, .int (zI x2))] [.int (zI v)] τ Q)))) : J ω m_M_level (d + 1) mc ms 0 0 19 [(0, .ref 94), (1, .int (zI x1)), (2, .int (zI x2))] [] σ Q := by
  refine j_aload_n d_M_level_19 0 rfl ?_
  obtain ⟨c3, h⟩ := h
  refine j_callV m_M_kind [] [] 0 0 0 cV_M_227 d_M_level_20 rfl rfl (tg_94 hE) (q_okE hE (by decide)) (Nat.le_of_ble_eq_true rfl) (Nat.succ_le_succ (Nat.zero_le _)) (Nat.le_of_ble_eq_true rfl) (Nat.zero_le _) (Nat.zero_le _) (c_M_kind2 hE c3 (q_z _ _ _) (q_z _ _ _)) (fun v τ h => ?_) (fun x τ h => absurd h.1 (by simp))
  obtain ⟨e1, e2⟩ := h; cases e1; rw [e2]
  refine j_callS m_M_levelOf [.int (zI (z σ 96 (z σ 94 8).toNat))] [] d 0 0 cS_M_292 d_M_level_23 rfl rfl (Nat.le_of_ble_eq_true rfl) (Nat.le_refl _) (Nat.le_of_ble_eq_true rfl) (Nat.zero_le _) (Nat.zero_le _) h (fun v τ h => ?_) (fun x τ h => ?_)
  · obtain ⟨v, hv, e1, h⟩ := h; cases e1; exact j_sel [0, 1, 2] rfl h
  · obtain ⟨v, hv, e1, h⟩ := h; cases e1
set_option maxHeartbeats 2000000 in
theorem b_M_level_26 {ω : q_W} {σ : q_H} {Q : q_R → q_H → Prop} {d mc ms : Nat} {x1 : Int} {x2 : Int} {y0 : Int} {s : Nat} (hs : s = 110 ∨ s = 116) (rs0 : q_r σ 94 32 = s) (rs1 : q_r σ 94 33 = (s + 1)) (rs2 : q_r σ 94 34 = (s + 2)) (rs3 : q_r σ 94 35 = (s + 3)) (rs4 : q_r σ 94 36 = (s + 4)) (rs5 : q_r σ 94 37 = (s + 5)) (hE : q_E σ) (h : inR y0 ∧ inR x1 ∧ q_imp (y0 ≠ x1) ((Q (.inl (some (.int (zI x2)))) σ)) ∧ q_imp (y0 = x1) ((0 ≤ (z σ 94 8) ∧ (z σ 94 8) < 4098) ∧ (J ω m_M_taken d 0 0 0 0 0 [(0, .ref 94)] [] σ (q_ox (q_ki (fun v τ => J ω m_M_level (d + 1) mc ms 0 0 39 [(0, .ref 94), (1, .int (zI x1)), (2, .int (zI x2)), (3, .int (zI (z σ 96 (z σ 94 8).toNat)))] [.int (zI v)] τ Q)) (fun x τ => Q (.inr x) τ))))) : J ω m_M_level (d + 1) mc ms 0 0 26 [(0, .ref 94), (1, .int (zI x1)), (2, .int (zI x2))] [.int (zI y0)] σ Q := by
  refine j_iload_n d_M_level_26 1 rfl ?_
  obtain ⟨r4, h⟩ := h
  obtain ⟨r5, h⟩ := h
  obtain ⟨h1, h2⟩ := h
  refine zj_icmp_ne 138 d_M_level_27 (by decide) r4 r5 (fun k6 => ?_) (fun k6 => ?_)
  · have h := h1 k6
    refine j_iload_n d_M_level_138 2 rfl ?_
    exact zj_iret d_M_level_139 rfl (Nat.zero_le _) (Nat.zero_le _) h
  · have h := h2 k6
    refine j_aload_n d_M_level_30 0 rfl ?_
    obtain ⟨c7, h⟩ := h
    refine j_callV m_M_kind [] [] 0 0 0 cV_M_227 d_M_level_31 rfl rfl (tg_94 hE) (q_okE hE (by decide)) (Nat.le_of_ble_eq_true rfl) (Nat.succ_le_succ (Nat.zero_le _)) (Nat.le_of_ble_eq_true rfl) (Nat.zero_le _) (Nat.zero_le _) (c_M_kind2 hE c7 (q_z _ _ _) (q_z _ _ _)) (fun v τ h => ?_) (fun x τ h => absurd h.1 (by simp))
    obtain ⟨e1, e2⟩ := h; cases e1; rw [e2]
    refine j_istore_n (L' := [(3, .int (zI (z σ 96 (z σ 94 8).toNat))), (0, .ref 94), (1, .int (zI x1)), (2, .int (zI x2))]) d_M_level_34 (by decide) rfl ?_
    refine j_aload_n d_M_level_35 1 rfl ?_
    refine j_callV m_M_taken [] [] d 0 0 cV_M_234 d_M_level_36 rfl rfl (tg_94 hE) (q_okE hE (by decide)) (Nat.le_of_ble_eq_true rfl) (Nat.le_refl _) (Nat.le_of_ble_eq_true rfl) (Nat.zero_le _) (Nat.zero_le _) h (fun v τ h => ?_) (fun x τ h => ?_)
    · rcases h with h | ⟨x, e1, h⟩
      · obtain ⟨v, hv, e1, h⟩ := h; cases e1; exact j_sel [1, 2, 3, 0] rfl h
      · cases e1
    · rcases h with h | ⟨y, e1, h⟩
      · obtain ⟨v, hv, e1, h⟩ := h; cases e1
      · cases e1; exact jt_out rfl (Nat.zero_le _) (Nat.zero_le _) h
set_option maxHeartbeats 2000000 in
theorem b_M_level_39 {ω : q_W} {σ : q_H} {Q : q_R → q_H → Prop} {d mc ms : Nat} {x1 : Int} {x2 : Int} {x3 : Int} {y0 : Int} {s : Nat} (hs : s = 110 ∨ s = 116) (rs0 : q_r σ 94 32 = s) (rs1 : q_r σ 94 33 = (s + 1)) (rs2 : q_r σ 94 34 = (s + 2)) (rs3 : q_r σ 94 35 = (s + 3)) (rs4 : q_r σ 94 36 = (s + 4)) (rs5 : q_r σ 94 37 = (s + 5)) (hE : q_E σ) (h : (J ω m_M_level d 0 0 0 0 0 [(0, .ref 94), (1, .int (zI (x1 + 1)))] [] σ (q_ox (q_ki (fun v τ => J ω m_M_level (d + 1) mc ms 0 0 48 [(0, .ref 94), (1, .int (zI x1)), (2, .int (zI x2)), (3, .int (zI x3))] [.int (zI v)] τ Q)) (fun x τ => Q (.inr x) τ)))) : J ω m_M_level (d + 1) mc ms 0 0 39 [(0, .ref 94), (1, .int (zI x1)), (2, .int (zI x2)), (3, .int (zI x3))] [.int (zI y0)] σ Q := by
  refine j_istore (L' := [(4, .int (zI y0)), (0, .ref 94), (1, .int (zI x1)), (2, .int (zI x2)), (3, .int (zI x3))]) d_M_level_39 (by decide) rfl ?_
  refine j_aload_n d_M_level_41 1 rfl ?_
  refine j_iload_n d_M_level_42 2 rfl ?_
  refine j_iconst (v := zI 1) d_M_level_43 (by decide) ?_
  refine zj_iadd (x1 + 1) (by omega) d_M_level_44 ?_
  refine j_callV m_M_level [.int (zI (x1 + 1))] [] d 0 0 cV_M_283 d_M_level_45 rfl rfl (tg_94 hE) (q_okE hE (by decide)) (Nat.le_of_ble_eq_true rfl) (Nat.le_refl _) (Nat.le_of_ble_eq_true rfl) (Nat.zero_le _) (Nat.zero_le _) h (fun v τ h => ?_) (fun x τ h => ?_)
  · rcases h with h | ⟨x, e1, h⟩
    · obtain ⟨v, hv, e1, h⟩ := h; cases e1; exact j_sel [1, 2, 3, 4] rfl h
    · cases e1
  · rcases h with h | ⟨y, e1, h⟩
    · obtain ⟨v, hv, e1, h⟩ := h; cases e1
    · cases e1; exact jt_out rfl (Nat.zero_le _) (Nat.zero_le _) h
set_option maxHeartbeats 2000000 in
theorem b_M_level_48 {ω : q_W} {σ : q_H} {Q : q_R → q_H → Prop} {d mc ms : Nat} {x1 : Int} {x2 : Int} {x3 : Int} {y0 : Int} {s : Nat} (hs : s = 110 ∨ s = 116) (rs0 : q_r σ 94 32 = s) (rs1 : q_r σ 94 33 = (s + 1)) (rs2 : q_r σ 94 34 = (s + 2)) (rs3 : q_r σ 94 35 = (s + 3)) (rs4 : q_r σ 94 36 = (s + 4)) (rs5 : q_r σ 94 37 = (s + 5)) (hE : q_E σ) (h : (J ω m_M_node d 0 0 0 0 0 [(0, .ref 94), (1, .int (zI x3)), (2, .int (zI x2)), (3, .int (zI y0)), (4, .int (zI 0))] [] σ (q_ki (fun v τ => J ω m_M_level (d + 1) mc ms 0 0 59 [(0, .ref 94), (1, .int (zI x1)), (2, .int (zI x2)), (5, .int (zI y0))] [.int (zI v)] τ Q)))) : J ω m_M_level (d + 1) mc ms 0 0 48 [(0, .ref 94), (1, .int (zI x1)), (2, .int (zI x2)), (3, .int (zI x3))] [.int (zI y0)] σ Q := by
  refine j_istore (L' := [(5, .int (zI y0)), (0, .ref 94), (1, .int (zI x1)), (2, .int (zI x2)), (3, .int (zI x3))]) d_M_level_48 (by decide) rfl ?_
  refine j_aload_n d_M_level_50 1 rfl ?_
  refine j_iload_n d_M_level_51 4 rfl ?_
  refine j_iload_n d_M_level_52 3 rfl ?_
  refine j_iload d_M_level_53 0 rfl ?_
  refine j_iconst (v := zI 0) d_M_level_55 (by decide) ?_
  refine j_callV m_M_node [.int (zI x3), .int (zI x2), .int (zI y0), .int (zI 0)] [] d 0 0 cV_M_270 d_M_level_56 rfl rfl (tg_94 hE) (q_okE hE (by decide)) (Nat.le_of_ble_eq_true rfl) (Nat.le_refl _) (Nat.le_of_ble_eq_true rfl) (Nat.zero_le _) (Nat.zero_le _) h (fun v τ h => ?_) (fun x τ h => ?_)
  · obtain ⟨v, hv, e1, h⟩ := h; cases e1; exact j_sel [1, 2, 3, 0] rfl h
  · obtain ⟨v, hv, e1, h⟩ := h; cases e1
set_option maxHeartbeats 2000000 in
theorem b_M_level_59 {ω : q_W} {σ : q_H} {Q : q_R → q_H → Prop} {d mc ms : Nat} {x1 : Int} {x2 : Int} {x5 : Int} {y0 : Int} {s : Nat} (hs : s = 110 ∨ s = 116) (rs0 : q_r σ 94 32 = s) (rs1 : q_r σ 94 33 = (s + 1)) (rs2 : q_r σ 94 34 = (s + 2)) (rs3 : q_r σ 94 35 = (s + 3)) (rs4 : q_r σ 94 36 = (s + 4)) (rs5 : q_r σ 94 37 = (s + 5)) (hE : q_E σ) (h : inR x1 ∧ q_imp (x1 ≤ 2) ((J ω m_M_level (d + 1) mc ms 0 0 83 [(0, .ref 94), (1, .int (zI x1)), (2, .int (zI x2)), (5, .int (zI x5)), (6, .int (zI y0))] [.int (zI 1)] σ Q)) ∧ q_imp (x1 > 2) (q_imp (x1 = 6) ((J ω m_M_level (d + 1) mc ms 0 0 83 [(0, .ref 94), (1, .int (zI x1)), (2, .int (zI x2)), (5, .int (zI x5)), (6, .int (zI y0))] [.int (zI 1)] σ Q)) ∧ q_imp (x1 ≠ 6) (q_imp (x1 ≠ 7) ((J ω m_M_level (d + 1) mc ms 0 0 83 [(0, .ref 94), (1, .int (zI x1)), (2, .int (zI x2)), (5, .int (zI x5)), (6, .int (zI y0))] [.int (zI 0)] σ Q)) ∧ q_imp (x1 = 7) ((J ω m_M_level (d + 1) mc ms 0 0 83 [(0, .ref 94), (1, .int (zI x1)), (2, .int (zI x2)), (5, .int (zI x5)), (6, .int (zI y0))] [.int (zI 1)] σ Q))))) : J ω m_M_level (d + 1) mc ms 0 0 59 [(0, .ref 94), (1, .int (zI x1)), (2, .int (zI x2)), (5, .int (zI x5))] [.int (zI y0)] σ Q := by
  refine j_istore (L' := [(6, .int (zI y0)), (0, .ref 94), (1, .int (zI x1)), (2, .int (zI x2)), (5, .int (zI x5))]) d_M_level_59 (by decide) rfl ?_
  refine j_iload_n d_M_level_61 2 rfl ?_
  refine j_iconst (v := zI 2) d_M_level_62 (by decide) ?_
  obtain ⟨r8, h⟩ := h
  obtain ⟨h1, h2⟩ := h
  refine zj_icmp_le 78 d_M_level_63 (by decide) r8 ⟨by decide, by decide⟩ (fun k9 => ?_) (fun k9 => ?_)
  · have h := h1 k9
    refine j_iconst (v := zI 1) d_M_level_78 (by decide) ?_
    refine j_goto 83 d_M_level_79 (by decide) ?_
    exact j_sel [1, 2, 3, 4, 0] rfl h
  · have h := h2 k9
    refine j_iload_n d_M_level_66 2 rfl ?_
    refine j_bipush (v := zI 6) d_M_level_67 (by decide) ?_
    obtain ⟨h1, h2⟩ := h
    refine zj_icmp_eq 78 d_M_level_69 (by decide) r8 ⟨by decide, by decide⟩ (fun k10 => ?_) (fun k10 => ?_)
    · have h := h1 k10
      refine j_iconst (v := zI 1) d_M_level_78 (by decide) ?_
      refine j_goto 83 d_M_level_79 (by decide) ?_
      exact j_sel [1, 2, 3, 4, 0] rfl h
    · have h := h2 k10
      refine j_iload_n d_M_level_72 2 rfl ?_
      refine j_bipush (v := zI 7) d_M_level_73 (by decide) ?_
      obtain ⟨h1, h2⟩ := h
      refine zj_icmp_ne 82 d_M_level_75 (by decide) r8 ⟨by decide, by decide⟩ (fun k11 => ?_) (fun k11 => ?_)
      · have h := h1 k11
        refine j_iconst (v := zI 0) d_M_level_82 (by decide) ?_
        exact j_sel [1, 2, 3, 4, 0] rfl h
      · have h := h2 k11
        refine j_iconst (v := zI 1) d_M_level_78 (by decide) ?_
        refine j_goto 83 d_M_level_79 (by decide) ?_
        exact j_sel [1, 2, 3, 4, 0] rfl h
set_option maxHeartbeats 2000000 in
theorem b_M_level_83 {ω : q_W} {σ : q_H} {Q : q_R → q_H → Prop} {d mc ms : Nat} {x1 : Int} {x2 : Int} {x5 : Int} {x6 : Int} {y0 : Int} {s : Nat} (hs : s = 110 ∨ s = 116) (rs0 : q_r σ 94 32 = s) (rs1 : q_r σ 94 33 = (s + 1)) (rs2 : q_r σ 94 34 = (s + 2)) (rs3 : q_r σ 94 35 = (s + 3)) (rs4 : q_r σ 94 36 = (s + 4)) (rs5 : q_r σ 94 37 = (s + 5)) (hE : q_E σ) (h : inR y0 ∧ q_imp (y0 = 0) (inR x1 ∧ q_imp (x1 ≠ 8) ((0 ≤ x2 ∧ x2 < 9000) ∧ (0 ≤ x5 ∧ x5 < 9000) ∧ (0 ≤ x6 ∧ x6 < 9000) ∧ (J ω m_M_level (d + 1) mc ms 0 0 19 [(0, .ref 94), (1, .int (zI x1)), (2, .int (zI x6))] [] (zs σ (s + 5) x6.toNat (max (z σ (s + 5) x2.toNat) (z σ (s + 5) x5.toNat))) Q)) ∧ q_imp (x1 = 8) ((0 ≤ x2 ∧ x2 < 9000) ∧ (0 ≤ x6 ∧ x6 < 9000) ∧ (J ω m_M_level (d + 1) mc ms 0 0 19 [(0, .ref 94), (1, .int (zI x1)), (2, .int (zI x6))] [] (zs σ (s + 5) x6.toNat (z σ (s + 5) x2.toNat)) Q))) ∧ q_imp (y0 ≠ 0) ((0 ≤ x6 ∧ x6 < 9000) ∧ (J ω m_M_level (d + 1) mc ms 0 0 19 [(0, .ref 94), (1, .int (zI x1)), (2, .int (zI x6))] [] (zs σ (s + 5) x6.toNat 1) Q))) : J ω m_M_level (d + 1) mc ms 0 0 83 [(0, .ref 94), (1, .int (zI x1)), (2, .int (zI x2)), (5, .int (zI x5)), (6, .int (zI x6))] [.int (zI y0)] σ Q := by
  refine j_istore (L' := [(7, .int (zI y0)), (0, .ref 94), (1, .int (zI x1)), (2, .int (zI x2)), (5, .int (zI x5)), (6, .int (zI x6))]) d_M_level_83 (by decide) rfl ?_
  refine j_aload_n d_M_level_85 1 rfl ?_
  refine j_getR (s + 5) f_M_76 d_M_level_86 (tg_94 hE) (q_okE hE (by decide)) (rs5) (by omega) ?_
  refine j_iload d_M_level_89 5 rfl ?_
  refine j_iload d_M_level_91 0 rfl ?_
  obtain ⟨r12, h⟩ := h
  obtain ⟨h1, h2⟩ := h
  refine zj_if_eq 100 d_M_level_93 (by decide) r12 (fun k13 => ?_) (fun k13 => ?_)
  · have h := h1 k13
    refine j_iload_n d_M_level_100 2 rfl ?_
    refine j_bipush (v := zI 8) d_M_level_101 (by decide) ?_
    obtain ⟨r14, h⟩ := h
    obtain ⟨h1, h2⟩ := h
    refine zj_icmp_ne 115 d_M_level_103 (by decide) r14 ⟨by decide, by decide⟩ (fun k15 => ?_) (fun k15 => ?_)
    · have h := h1 k15
      refine j_aload_n d_M_level_115 1 rfl ?_
      refine j_getR (s + 5) f_M_76 d_M_level_116 (tg_94 hE) (q_okE hE (by decide)) (rs5) (by omega) ?_
      refine j_iload_n d_M_level_119 3 rfl ?_
      obtain ⟨c16, h⟩ := h
      refine zj_iald (z σ (s + 5) x2.toNat) d_M_level_120 (tY_s_5 hE hs) (q_okE hE (by omega)) c16 (by decide) (q_z _ _ _) ?_
      refine j_aload_n d_M_level_121 1 rfl ?_
      refine j_getR (s + 5) f_M_76 d_M_level_122 (tg_94 hE) (q_okE hE (by decide)) (rs5) (by omega) ?_
      refine j_iload d_M_level_125 4 rfl ?_
      obtain ⟨c17, h⟩ := h
      refine zj_iald (z σ (s + 5) x5.toNat) d_M_level_127 (tY_s_5 hE hs) (q_okE hE (by omega)) c17 (by decide) (q_z _ _ _) ?_
      refine zj_max (List.mem_of_getElem? (i := 1915) (by decide +kernel)) d_M_level_128 (Nat.succ_le_succ (Nat.zero_le _)) (Nat.le_of_ble_eq_true rfl) (Nat.zero_le _) (Nat.zero_le _) (z_R _ _ _) (z_R _ _ _) ?_
      obtain ⟨c18, h⟩ := h
      refine zj_iast d_M_level_131 (tY_s_5 hE hs) (q_okE hE (by omega)) c18 (by decide) ?_
      refine j_iload d_M_level_132 5 rfl ?_
      refine j_istore_n (L' := [(2, .int (zI x6)), (7, .int (zI y0)), (0, .ref 94), (1, .int (zI x1)), (5, .int (zI x5)), (6, .int (zI x6))]) d_M_level_134 (by decide) rfl ?_
      refine j_goto 19 d_M_level_135 (by decide) ?_
      exact j_sel [2, 3, 0] rfl h
    · have h := h2 k15
      refine j_aload_n d_M_level_106 1 rfl ?_
      refine j_getR (s + 5) f_M_76 d_M_level_107 (tg_94 hE) (q_okE hE (by decide)) (rs5) (by omega) ?_
      refine j_iload_n d_M_level_110 3 rfl ?_
      obtain ⟨c19, h⟩ := h
      refine zj_iald (z σ (s + 5) x2.toNat) d_M_level_111 (tY_s_5 hE hs) (q_okE hE (by omega)) c19 (by decide) (q_z _ _ _) ?_
      refine j_goto 131 d_M_level_112 (by decide) ?_
      obtain ⟨c20, h⟩ := h
      refine zj_iast d_M_level_131 (tY_s_5 hE hs) (q_okE hE (by omega)) c20 (by decide) ?_
      refine j_iload d_M_level_132 5 rfl ?_
      refine j_istore_n (L' := [(2, .int (zI x6)), (7, .int (zI y0)), (0, .ref 94), (1, .int (zI x1)), (5, .int (zI x5)), (6, .int (zI x6))]) d_M_level_134 (by decide) rfl ?_
      refine j_goto 19 d_M_level_135 (by decide) ?_
      exact j_sel [2, 3, 0] rfl h
  · have h := h2 k13
    refine j_iconst (v := zI 1) d_M_level_96 (by decide) ?_
    refine j_goto 131 d_M_level_97 (by decide) ?_
    obtain ⟨c21, h⟩ := h
    refine zj_iast d_M_level_131 (tY_s_5 hE hs) (q_okE hE (by omega)) c21 (by decide) ?_
    refine j_iload d_M_level_132 5 rfl ?_
    refine j_istore_n (L' := [(2, .int (zI x6)), (7, .int (zI y0)), (0, .ref 94), (1, .int (zI x1)), (5, .int (zI x5)), (6, .int (zI x6))]) d_M_level_134 (by decide) rfl ?_
    refine j_goto 19 d_M_level_135 (by decide) ?_
    exact j_sel [2, 3, 0] rfl h
set_option maxHeartbeats 2000000 in
theorem b_M_unary_0 {ω : q_W} {σ : q_H} {Q : q_R → q_H → Prop} {d mc ms : Nat}  {s : Nat} (hs : s = 110 ∨ s = 116) (rs0 : q_r σ 94 32 = s) (rs1 : q_r σ 94 33 = (s + 1)) (rs2 : q_r σ 94 34 = (s + 2)) (rs3 : q_r σ 94 35 = (s + 3)) (rs4 : q_r σ 94 36 = (s + 4)) (rs5 : q_r σ 94 37 = (s + 5)) (hE : q_E σ) (h : (0 ≤ (z σ 94 8) ∧ (z σ 94 8) < 4098) ∧ q_imp ((z σ 96 (z σ 94 8).toNat) = 33) ((J ω m_M_unary (d + 1) mc ms 0 0 23 [(0, .ref 94), (1, .int (zI (z σ 96 (z σ 94 8).toNat)))] [] σ Q)) ∧ q_imp ((z σ 96 (z σ 94 8).toNat) ≠ 33) (q_imp ((z σ 96 (z σ 94 8).toNat) = 126) ((J ω m_M_unary (d + 1) mc ms 0 0 23 [(0, .ref 94), (1, .int (zI (z σ 96 (z σ 94 8).toNat)))] [] σ Q)) ∧ q_imp ((z σ 96 (z σ 94 8).toNat) ≠ 126) (q_imp ((z σ 96 (z σ 94 8).toNat) ≠ 45) (q_imp ((z σ 96 (z σ 94 8).toNat) ≠ 40) (q_imp ((z σ 96 (z σ 94 8).toNat) ≠ 264) ((J ω m_M_expect d 0 0 0 0 0 [(0, .ref 94), (1, .int (zI 263))] [] σ (q_ox (q_ki (fun v τ => J ω m_M_unary (d + 1) mc ms 0 0 166 [(0, .ref 94)] [.int (zI v)] τ Q)) (fun x τ => Q (.inr x) τ)))) ∧ q_imp ((z σ 96 (z σ 94 8).toNat) = 264) ((J ω m_M_taken d 0 0 0 0 0 [(0, .ref 94)] [] σ (q_ox (q_ki (fun v τ => J ω m_M_unary (d + 1) mc ms 0 0 127 [(0, .ref 94)] [.int (zI v), .ref 98] τ Q)) (fun x τ => Q (.inr x) τ))))) ∧ q_imp ((z σ 96 (z σ 94 8).toNat) = 40) ((J ω m_M_inBrackets d 0 0 0 0 0 [(0, .ref 94)] [] σ (q_ox (q_ki (fun v τ => J ω m_M_unary (d + 1) mc ms 0 0 111 [] [.int (zI v)] τ Q)) (fun x τ => Q (.inr x) τ))))) ∧ q_imp ((z σ 96 (z σ 94 8).toNat) = 45) ((J ω m_M_unary (d + 1) mc ms 0 0 23 [(0, .ref 94), (1, .int (zI (z σ 96 (z σ 94 8).toNat)))] [] σ Q))))) : J ω m_M_unary (d + 1) mc ms 0 0 0 [(0, .ref 94)] [] σ Q := by
  refine j_aload_n d_M_unary_0 0 rfl ?_
  obtain ⟨c1, h⟩ := h
  refine j_callV m_M_kind [] [] 0 0 0 cV_M_227 d_M_unary_1 rfl rfl (tg_94 hE) (q_okE hE (by decide)) (Nat.le_of_ble_eq_true rfl) (Nat.succ_le_succ (Nat.zero_le _)) (Nat.le_of_ble_eq_true rfl) (Nat.zero_le _) (Nat.zero_le _) (c_M_kind2 hE c1 (q_z _ _ _) (q_z _ _ _)) (fun v τ h => ?_) (fun x τ h => absurd h.1 (by simp))
  obtain ⟨e1, e2⟩ := h; cases e1; rw [e2]
  refine j_istore_n (L' := [(1, .int (zI (z σ 96 (z σ 94 8).toNat))), (0, .ref 94)]) d_M_unary_4 (by decide) rfl ?_
  refine j_iload_n d_M_unary_5 0 rfl ?_
  refine j_bipush (v := zI 33) d_M_unary_6 (by decide) ?_
  obtain ⟨h1, h2⟩ := h
  refine zj_icmp_eq 23 d_M_unary_8 (by decide) (z_R _ _ _) ⟨by decide, by decide⟩ (fun k2 => ?_) (fun k2 => ?_)
  · have h := h1 k2
    exact j_sel [1, 0] rfl h
  · have h := h2 k2
    refine j_iload_n d_M_unary_11 0 rfl ?_
    refine j_bipush (v := zI 126) d_M_unary_12 (by decide) ?_
    obtain ⟨h1, h2⟩ := h
    refine zj_icmp_eq 23 d_M_unary_14 (by decide) (z_R _ _ _) ⟨by decide, by decide⟩ (fun k3 => ?_) (fun k3 => ?_)
    · have h := h1 k3
      exact j_sel [1, 0] rfl h
    · have h := h2 k3
      refine j_iload_n d_M_unary_17 0 rfl ?_
      refine j_bipush (v := zI 45) d_M_unary_18 (by decide) ?_
      obtain ⟨h1, h2⟩ := h
      refine zj_icmp_ne 101 d_M_unary_20 (by decide) (z_R _ _ _) ⟨by decide, by decide⟩ (fun k4 => ?_) (fun k4 => ?_)
      · have h := h1 k4
        refine j_iload_n d_M_unary_101 0 rfl ?_
        refine j_bipush (v := zI 40) d_M_unary_102 (by decide) ?_
        obtain ⟨h1, h2⟩ := h
        refine zj_icmp_ne 112 d_M_unary_104 (by decide) (z_R _ _ _) ⟨by decide, by decide⟩ (fun k5 => ?_) (fun k5 => ?_)
        · have h := h1 k5
          refine j_iload_n d_M_unary_112 0 rfl ?_
          refine j_sipush (v := zI 264) d_M_unary_113 (by decide) ?_
          obtain ⟨h1, h2⟩ := h
          refine zj_icmp_ne 159 d_M_unary_116 (by decide) (z_R _ _ _) ⟨by decide, by decide⟩ (fun k6 => ?_) (fun k6 => ?_)
          · have h := h1 k6
            refine j_aload_n d_M_unary_159 1 rfl ?_
            refine j_sipush (v := zI 263) d_M_unary_160 (by decide) ?_
            refine j_callV m_M_expect [.int (zI 263)] [] d 0 0 cV_M_249 d_M_unary_163 rfl rfl (tg_94 hE) (q_okE hE (by decide)) (Nat.le_of_ble_eq_true rfl) (Nat.le_refl _) (Nat.le_of_ble_eq_true rfl) (Nat.zero_le _) (Nat.zero_le _) h (fun v τ h => ?_) (fun x τ h => ?_)
            · rcases h with h | ⟨x, e1, h⟩
              · obtain ⟨v, hv, e1, h⟩ := h; cases e1; exact j_sel [1] rfl h
              · cases e1
            · rcases h with h | ⟨y, e1, h⟩
              · obtain ⟨v, hv, e1, h⟩ := h; cases e1
              · cases e1; exact jt_out rfl (Nat.zero_le _) (Nat.zero_le _) h
          · have h := h2 k6
            refine j_aload_n d_M_unary_119 1 rfl ?_
            refine j_getR 98 f_M_20 d_M_unary_120 (tg_94 hE) (q_okE hE (by decide)) (rf_94_5 hE) (by decide) ?_
            refine j_aload_n d_M_unary_123 1 rfl ?_
            refine j_callV m_M_taken [] [.ref 98] d 0 0 cV_M_234 d_M_unary_124 rfl rfl (tg_94 hE) (q_okE hE (by decide)) (Nat.le_of_ble_eq_true rfl) (Nat.le_refl _) (Nat.le_of_ble_eq_true rfl) (Nat.zero_le _) (Nat.zero_le _) h (fun v τ h => ?_) (fun x τ h => ?_)
            · rcases h with h | ⟨x, e1, h⟩
              · obtain ⟨v, hv, e1, h⟩ := h; cases e1; exact j_sel [1] rfl h
              · cases e1
            · rcases h with h | ⟨y, e1, h⟩
              · obtain ⟨v, hv, e1, h⟩ := h; cases e1
              · cases e1; exact jt_out rfl (Nat.zero_le _) (Nat.zero_le _) h
        · have h := h2 k5
          refine j_aload_n d_M_unary_107 1 rfl ?_
          refine j_callV m_M_inBrackets [] [] d 0 0 cV_M_274 d_M_unary_108 rfl rfl (tg_94 hE) (q_okE hE (by decide)) (Nat.le_of_ble_eq_true rfl) (Nat.le_refl _) (Nat.le_of_ble_eq_true rfl) (Nat.zero_le _) (Nat.zero_le _) h (fun v τ h => ?_) (fun x τ h => ?_)
          · rcases h with h | ⟨x, e1, h⟩
            · obtain ⟨v, hv, e1, h⟩ := h; cases e1; exact j_sel [] rfl h
            · cases e1
          · rcases h with h | ⟨y, e1, h⟩
            · obtain ⟨v, hv, e1, h⟩ := h; cases e1
            · cases e1; exact jt_out rfl (Nat.zero_le _) (Nat.zero_le _) h
      · have h := h2 k4
        exact j_sel [1, 0] rfl h
set_option maxHeartbeats 2000000 in
theorem b_M_unary_23 {ω : q_W} {σ : q_H} {Q : q_R → q_H → Prop} {d mc ms : Nat} {x1 : Int} {s : Nat} (hs : s = 110 ∨ s = 116) (rs0 : q_r σ 94 32 = s) (rs1 : q_r σ 94 33 = (s + 1)) (rs2 : q_r σ 94 34 = (s + 2)) (rs3 : q_r σ 94 35 = (s + 3)) (rs4 : q_r σ 94 36 = (s + 4)) (rs5 : q_r σ 94 37 = (s + 5)) (hE : q_E σ) (h : (J ω m_M_taken d 0 0 0 0 0 [(0, .ref 94)] [] σ (q_ox (q_ki (fun v τ => J ω m_M_unary (d + 1) mc ms 0 0 27 [(0, .ref 94), (1, .int (zI x1))] [.int (zI v)] τ Q)) (fun x τ => Q (.inr x) τ)))) : J ω m_M_unary (d + 1) mc ms 0 0 23 [(0, .ref 94), (1, .int (zI x1))] [] σ Q := by
  refine j_aload_n d_M_unary_23 0 rfl ?_
  refine j_callV m_M_taken [] [] d 0 0 cV_M_234 d_M_unary_24 rfl rfl (tg_94 hE) (q_okE hE (by decide)) (Nat.le_of_ble_eq_true rfl) (Nat.le_refl _) (Nat.le_of_ble_eq_true rfl) (Nat.zero_le _) (Nat.zero_le _) h (fun v τ h => ?_) (fun x τ h => ?_)
  · rcases h with h | ⟨x, e1, h⟩
    · obtain ⟨v, hv, e1, h⟩ := h; cases e1; exact j_sel [0, 1] rfl h
    · cases e1
  · rcases h with h | ⟨y, e1, h⟩
    · obtain ⟨v, hv, e1, h⟩ := h; cases e1
    · cases e1; exact jt_out rfl (Nat.zero_le _) (Nat.zero_le _) h
set_option maxHeartbeats 2000000 in
theorem b_M_unary_166 {ω : q_W} {σ : q_H} {Q : q_R → q_H → Prop} {d mc ms : Nat} {y0 : Int} {s : Nat} (hs : s = 110 ∨ s = 116) (rs0 : q_r σ 94 32 = s) (rs1 : q_r σ 94 33 = (s + 1)) (rs2 : q_r σ 94 34 = (s + 2)) (rs3 : q_r σ 94 35 = (s + 3)) (rs4 : q_r σ 94 36 = (s + 4)) (rs5 : q_r σ 94 37 = (s + 5)) (hE : q_E σ) (h : (0 ≤ y0 ∧ y0 < 4098) ∧ (J ω m_M_lookUp d 0 0 0 0 0 [(0, .ref 94), (1, .long (q_l σ 99 y0.toNat))] [] σ (q_ki (fun v τ => J ω m_M_unary (d + 1) mc ms 0 0 177 [(0, .ref 94), (2, .int (zI y0))] [.int (zI v)] τ Q)))) : J ω m_M_unary (d + 1) mc ms 0 0 166 [(0, .ref 94)] [.int (zI y0)] σ Q := by
  refine j_istore_n (L' := [(2, .int (zI y0)), (0, .ref 94)]) d_M_unary_166 (by decide) rfl ?_
  refine j_aload_n d_M_unary_167 1 rfl ?_
  refine j_aload_n d_M_unary_168 1 rfl ?_
  refine j_getR 99 f_M_23 d_M_unary_169 (tg_94 hE) (q_okE hE (by decide)) (rf_94_6 hE) (by decide) ?_
  refine j_iload_n d_M_unary_172 0 rfl ?_
  obtain ⟨c7, h⟩ := h
  refine zj_lald (q_l σ 99 y0.toNat) d_M_unary_173 (tg_99 hE) (q_okE hE (by decide)) c7 (by decide) (rfl) ?_
  refine j_callV m_M_lookUp [.long (q_l σ 99 y0.toNat)] [] d 0 0 cV_M_252 d_M_unary_174 rfl rfl (tg_94 hE) (q_okE hE (by decide)) (Nat.le_of_ble_eq_true rfl) (Nat.le_refl _) (Nat.le_of_ble_eq_true rfl) (Nat.zero_le _) (Nat.zero_le _) h (fun v τ h => ?_) (fun x τ h => ?_)
  · obtain ⟨v, hv, e1, h⟩ := h; cases e1; exact j_sel [1, 0] rfl h
  · obtain ⟨v, hv, e1, h⟩ := h; cases e1
set_option maxHeartbeats 2000000 in
theorem b_M_unary_127 {ω : q_W} {σ : q_H} {Q : q_R → q_H → Prop} {d mc ms : Nat} {y0 : Int} {s : Nat} (hs : s = 110 ∨ s = 116) (rs0 : q_r σ 94 32 = s) (rs1 : q_r σ 94 33 = (s + 1)) (rs2 : q_r σ 94 34 = (s + 2)) (rs3 : q_r σ 94 35 = (s + 3)) (rs4 : q_r σ 94 36 = (s + 4)) (rs5 : q_r σ 94 37 = (s + 5)) (hE : q_E σ) (h : (0 ≤ y0 ∧ y0 < 4098) ∧ (J ω m_M_node d 0 0 0 0 0 [(0, .ref 94), (1, .int (zI 264)), (2, .int (zI (z σ 98 y0.toNat))), (3, .int (zI 0)), (4, .int (zI 0))] [] σ (q_ki (fun v τ => J ω m_M_unary (d + 1) mc ms 0 0 139 [(0, .ref 94), (2, .int (zI (z σ 98 y0.toNat)))] [.int (zI v)] τ Q)))) : J ω m_M_unary (d + 1) mc ms 0 0 127 [(0, .ref 94)] [.int (zI y0), .ref 98] σ Q := by
  obtain ⟨c8, h⟩ := h
  refine zj_iald (z σ 98 y0.toNat) d_M_unary_127 (tg_98 hE) (q_okE hE (by decide)) c8 (by decide) (q_z _ _ _) ?_
  refine j_istore_n (L' := [(2, .int (zI (z σ 98 y0.toNat))), (0, .ref 94)]) d_M_unary_128 (by decide) rfl ?_
  refine j_aload_n d_M_unary_129 1 rfl ?_
  refine j_sipush (v := zI 264) d_M_unary_130 (by decide) ?_
  refine j_iload_n d_M_unary_133 0 rfl ?_
  refine j_iconst (v := zI 0) d_M_unary_134 (by decide) ?_
  refine j_iconst (v := zI 0) d_M_unary_135 (by decide) ?_
  refine j_callV m_M_node [.int (zI 264), .int (zI (z σ 98 y0.toNat)), .int (zI 0), .int (zI 0)] [] d 0 0 cV_M_270 d_M_unary_136 rfl rfl (tg_94 hE) (q_okE hE (by decide)) (Nat.le_of_ble_eq_true rfl) (Nat.le_refl _) (Nat.le_of_ble_eq_true rfl) (Nat.zero_le _) (Nat.zero_le _) h (fun v τ h => ?_) (fun x τ h => ?_)
  · obtain ⟨v, hv, e1, h⟩ := h; cases e1; exact j_sel [1, 0] rfl h
  · obtain ⟨v, hv, e1, h⟩ := h; cases e1
set_option maxHeartbeats 2000000 in
theorem b_M_unary_111 {ω : q_W} {σ : q_H} {Q : q_R → q_H → Prop} {d mc ms : Nat} {y0 : Int} {s : Nat} (hs : s = 110 ∨ s = 116) (rs0 : q_r σ 94 32 = s) (rs1 : q_r σ 94 33 = (s + 1)) (rs2 : q_r σ 94 34 = (s + 2)) (rs3 : q_r σ 94 35 = (s + 3)) (rs4 : q_r σ 94 36 = (s + 4)) (rs5 : q_r σ 94 37 = (s + 5)) (hE : q_E σ) (h : (Q (.inl (some (.int (zI y0)))) σ)) : J ω m_M_unary (d + 1) mc ms 0 0 111 [] [.int (zI y0)] σ Q := by
  exact zj_iret d_M_unary_111 rfl (Nat.zero_le _) (Nat.zero_le _) h
set_option maxHeartbeats 2000000 in
theorem b_M_unary_27 {ω : q_W} {σ : q_H} {Q : q_R → q_H → Prop} {d mc ms : Nat} {x1 : Int} {y0 : Int} {s : Nat} (hs : s = 110 ∨ s = 116) (rs0 : q_r σ 94 32 = s) (rs1 : q_r σ 94 33 = (s + 1)) (rs2 : q_r σ 94 34 = (s + 2)) (rs3 : q_r σ 94 35 = (s + 3)) (rs4 : q_r σ 94 36 = (s + 4)) (rs5 : q_r σ 94 37 = (s + 5)) (hE : q_E σ) (h : (J ω m_M_unary d 0 0 0 0 0 [(0, .ref 94)] [] (zs σ 94 9 ((z σ 94 9) + 1)) (q_ox (q_ki (fun v τ => J ω m_M_unary (d + 1) mc ms 0 0 42 [(0, .ref 94), (1, .int (zI x1))] [.int (zI v)] τ Q)) (fun x τ => Q (.inr x) τ)))) : J ω m_M_unary (d + 1) mc ms 0 0 27 [(0, .ref 94), (1, .int (zI x1))] [.int (zI y0)] σ Q := by
  refine j_istore_n (L' := [(2, .int (zI y0)), (0, .ref 94), (1, .int (zI x1))]) d_M_unary_27 (by decide) rfl ?_
  refine j_aload_n d_M_unary_28 1 rfl ?_
  refine j_dup d_M_unary_29 rfl ?_
  refine zj_getI (z σ 94 9) f_M_224 d_M_unary_30 (tg_94 hE) (q_okE hE (by decide)) (q_z _ _ _) ?_
  refine j_iconst (v := zI 1) d_M_unary_33 (by decide) ?_
  refine zj_iadd ((z σ 94 9) + 1) (by omega) d_M_unary_34 ?_
  refine zj_putI (g_M_224 _) d_M_unary_35 (tg_94 hE) (q_okE hE (by decide)) ?_
  refine j_aload_n d_M_unary_38 1 rfl ?_
  refine j_callV m_M_unary [] [] d 0 0 cV_M_289 d_M_unary_39 rfl rfl (tg_94 (zs_E hE)) (q_okE (zs_E hE) (by decide)) (Nat.le_of_ble_eq_true rfl) (Nat.le_refl _) (Nat.le_of_ble_eq_true rfl) (Nat.zero_le _) (Nat.zero_le _) h (fun v τ h => ?_) (fun x τ h => ?_)
  · rcases h with h | ⟨x, e1, h⟩
    · obtain ⟨v, hv, e1, h⟩ := h; cases e1; exact j_sel [1, 2] rfl h
    · cases e1
  · rcases h with h | ⟨y, e1, h⟩
    · obtain ⟨v, hv, e1, h⟩ := h; cases e1
    · cases e1; exact jt_out rfl (Nat.zero_le _) (Nat.zero_le _) h
set_option maxHeartbeats 2000000 in
theorem b_M_unary_177 {ω : q_W} {σ : q_H} {Q : q_R → q_H → Prop} {d mc ms : Nat} {x2 : Int} {y0 : Int} {s : Nat} (hs : s = 110 ∨ s = 116) (rs0 : q_r σ 94 32 = s) (rs1 : q_r σ 94 33 = (s + 1)) (rs2 : q_r σ 94 34 = (s + 2)) (rs3 : q_r σ 94 35 = (s + 3)) (rs4 : q_r σ 94 36 = (s + 4)) (rs5 : q_r σ 94 37 = (s + 5)) (hE : q_E σ) (h : inR y0 ∧ q_imp (0 ≤ y0) ((J ω m_M_unary (d + 1) mc ms 0 0 188 [(0, .ref 94), (3, .int (zI y0))] [] σ Q)) ∧ q_imp (y0 < 0) ((J ω m_M_found d 0 0 0 0 0 [(0, .ref 94), (1, .int (zI 2)), (2, .int (zI x2))] [] σ (q_kv (fun τ => J ω m_M_unary (d + 1) mc ms 0 0 188 [(0, .ref 94), (3, .int (zI y0))] [] τ Q))))) : J ω m_M_unary (d + 1) mc ms 0 0 177 [(0, .ref 94), (2, .int (zI x2))] [.int (zI y0)] σ Q := by
  refine j_istore_n (L' := [(3, .int (zI y0)), (0, .ref 94), (2, .int (zI x2))]) d_M_unary_177 (by decide) rfl ?_
  refine j_iload_n d_M_unary_178 0 rfl ?_
  obtain ⟨r9, h⟩ := h
  obtain ⟨h1, h2⟩ := h
  refine zj_if_ge 188 d_M_unary_179 (by decide) r9 (fun k10 => ?_) (fun k10 => ?_)
  · have h := h1 k10
    exact j_sel [1, 0] rfl h
  · have h := h2 k10
    refine j_aload_n d_M_unary_182 1 rfl ?_
    refine j_iconst (v := zI 2) d_M_unary_183 (by decide) ?_
    refine j_iload_n d_M_unary_184 2 rfl ?_
    refine j_callV m_M_found [.int (zI 2), .int (zI x2)] [] d 0 0 cV_M_255 d_M_unary_185 rfl rfl (tg_94 hE) (q_okE hE (by decide)) (Nat.le_of_ble_eq_true rfl) (Nat.le_refl _) (Nat.le_of_ble_eq_true rfl) (Nat.zero_le _) (Nat.zero_le _) h (fun v τ h => ?_) (fun x τ h => ?_)
    · obtain ⟨e1, h⟩ := h; cases e1; exact j_sel [1, 0] rfl h
    · obtain ⟨e1, h⟩ := h; cases e1
set_option maxHeartbeats 2000000 in
theorem b_M_unary_139 {ω : q_W} {σ : q_H} {Q : q_R → q_H → Prop} {d mc ms : Nat} {x2 : Int} {y0 : Int} {s : Nat} (hs : s = 110 ∨ s = 116) (rs0 : q_r σ 94 32 = s) (rs1 : q_r σ 94 33 = (s + 1)) (rs2 : q_r σ 94 34 = (s + 2)) (rs3 : q_r σ 94 35 = (s + 3)) (rs4 : q_r σ 94 36 = (s + 4)) (rs5 : q_r σ 94 37 = (s + 5)) (hE : q_E σ) (h : (J ω m_JI_numberOfLeadingZeros d 0 0 0 0 0 [(0, .int (zI x2))] [] σ (q_ki (fun v τ => J ω m_M_unary (d + 1) mc ms 0 0 152 [(3, .int (zI y0))] [.int (zI v), .int (zI 32), .int (zI 1), .int (zI y0), .ref (s + 5)] τ Q)))) : J ω m_M_unary (d + 1) mc ms 0 0 139 [(0, .ref 94), (2, .int (zI x2))] [.int (zI y0)] σ Q := by
  refine j_istore_n (L' := [(3, .int (zI y0)), (0, .ref 94), (2, .int (zI x2))]) d_M_unary_139 (by decide) rfl ?_
  refine j_aload_n d_M_unary_140 1 rfl ?_
  refine j_getR (s + 5) f_M_76 d_M_unary_141 (tg_94 hE) (q_okE hE (by decide)) (rs5) (by omega) ?_
  refine j_iload_n d_M_unary_144 0 rfl ?_
  refine j_iconst (v := zI 1) d_M_unary_145 (by decide) ?_
  refine j_bipush (v := zI 32) d_M_unary_146 (by decide) ?_
  refine j_iload_n d_M_unary_148 2 rfl ?_
  refine j_callS m_JI_numberOfLeadingZeros [.int (zI x2)] [.int (zI 32), .int (zI 1), .int (zI y0), .ref (s + 5)] d 0 0 cS_M_295 d_M_unary_149 rfl rfl (Nat.le_of_ble_eq_true rfl) (Nat.le_refl _) (Nat.le_of_ble_eq_true rfl) (Nat.zero_le _) (Nat.zero_le _) h (fun v τ h => ?_) (fun x τ h => ?_)
  · obtain ⟨v, hv, e1, h⟩ := h; cases e1; exact j_sel [0] rfl h
  · obtain ⟨v, hv, e1, h⟩ := h; cases e1
set_option maxHeartbeats 2000000 in
theorem b_M_unary_42 {ω : q_W} {σ : q_H} {Q : q_R → q_H → Prop} {d mc ms : Nat} {x1 : Int} {y0 : Int} {s : Nat} (hs : s = 110 ∨ s = 116) (rs0 : q_r σ 94 32 = s) (rs1 : q_r σ 94 33 = (s + 1)) (rs2 : q_r σ 94 34 = (s + 2)) (rs3 : q_r σ 94 35 = (s + 3)) (rs4 : q_r σ 94 36 = (s + 4)) (rs5 : q_r σ 94 37 = (s + 5)) (hE : q_E σ) (h : inR x1 ∧ q_imp (x1 ≠ 45) ((J ω m_M_unary (d + 1) mc ms 0 0 67 [(0, .ref 94), (1, .int (zI x1)), (3, .int (zI y0))] [.int (zI x1), .ref 94] (zs σ 94 9 ((z σ 94 9) - 1)) Q)) ∧ q_imp (x1 = 45) ((J ω m_M_unary (d + 1) mc ms 0 0 67 [(0, .ref 94), (1, .int (zI x1)), (3, .int (zI y0))] [.int (zI 278), .ref 94] (zs σ 94 9 ((z σ 94 9) - 1)) Q))) : J ω m_M_unary (d + 1) mc ms 0 0 42 [(0, .ref 94), (1, .int (zI x1))] [.int (zI y0)] σ Q := by
  refine j_istore_n (L' := [(3, .int (zI y0)), (0, .ref 94), (1, .int (zI x1))]) d_M_unary_42 (by decide) rfl ?_
  refine j_aload_n d_M_unary_43 1 rfl ?_
  refine j_dup d_M_unary_44 rfl ?_
  refine zj_getI (z σ 94 9) f_M_224 d_M_unary_45 (tg_94 hE) (q_okE hE (by decide)) (q_z _ _ _) ?_
  refine j_iconst (v := zI 1) d_M_unary_48 (by decide) ?_
  refine zj_isub ((z σ 94 9) - 1) (by omega) d_M_unary_49 ?_
  refine zj_putI (g_M_224 _) d_M_unary_50 (tg_94 hE) (q_okE hE (by decide)) ?_
  refine j_aload_n d_M_unary_53 1 rfl ?_
  refine j_iload_n d_M_unary_54 2 rfl ?_
  refine j_bipush (v := zI 45) d_M_unary_55 (by decide) ?_
  obtain ⟨r11, h⟩ := h
  obtain ⟨h1, h2⟩ := h
  refine zj_icmp_ne 66 d_M_unary_57 (by decide) r11 ⟨by decide, by decide⟩ (fun k12 => ?_) (fun k12 => ?_)
  · have h := h1 k12
    refine j_iload_n d_M_unary_66 2 rfl ?_
    exact j_sel [1, 2, 0] rfl h
  · have h := h2 k12
    refine j_sipush (v := zI 278) d_M_unary_60 (by decide) ?_
    refine j_goto 67 d_M_unary_63 (by decide) ?_
    exact j_sel [1, 2, 0] rfl h
set_option maxHeartbeats 2000000 in
theorem b_M_unary_188 {ω : q_W} {σ : q_H} {Q : q_R → q_H → Prop} {d mc ms : Nat} {x3 : Int} {s : Nat} (hs : s = 110 ∨ s = 116) (rs0 : q_r σ 94 32 = s) (rs1 : q_r σ 94 33 = (s + 1)) (rs2 : q_r σ 94 34 = (s + 2)) (rs3 : q_r σ 94 35 = (s + 3)) (rs4 : q_r σ 94 36 = (s + 4)) (rs5 : q_r σ 94 37 = (s + 5)) (hE : q_E σ) (h : inR x3 ∧ q_imp (0 ≤ x3) ((0 ≤ x3 ∧ x3 < 400) ∧ (J ω m_M_unary (d + 1) mc ms 0 0 206 [(0, .ref 94), (3, .int (zI x3))] [.int (zI (z σ 104 x3.toNat)), .int (zI 263), .ref 94] σ Q)) ∧ q_imp (x3 < 0) ((J ω m_M_unary (d + 1) mc ms 0 0 206 [(0, .ref 94), (3, .int (zI x3))] [.int (zI 0), .int (zI 263), .ref 94] σ Q))) : J ω m_M_unary (d + 1) mc ms 0 0 188 [(0, .ref 94), (3, .int (zI x3))] [] σ Q := by
  refine j_aload_n d_M_unary_188 0 rfl ?_
  refine j_sipush (v := zI 263) d_M_unary_189 (by decide) ?_
  refine j_iload_n d_M_unary_192 1 rfl ?_
  obtain ⟨r13, h⟩ := h
  obtain ⟨h1, h2⟩ := h
  refine zj_if_ge 200 d_M_unary_193 (by decide) r13 (fun k14 => ?_) (fun k14 => ?_)
  · have h := h1 k14
    refine j_aload_n d_M_unary_200 0 rfl ?_
    refine j_getR 104 f_M_43 d_M_unary_201 (tg_94 hE) (q_okE hE (by decide)) (rf_94_15 hE) (by decide) ?_
    refine j_iload_n d_M_unary_204 1 rfl ?_
    obtain ⟨c15, h⟩ := h
    refine zj_iald (z σ 104 x3.toNat) d_M_unary_205 (tg_104 hE) (q_okE hE (by decide)) c15 (by decide) (q_z _ _ _) ?_
    exact j_sel [0, 1] rfl h
  · have h := h2 k14
    refine j_iconst (v := zI 0) d_M_unary_196 (by decide) ?_
    refine j_goto 206 d_M_unary_197 (by decide) ?_
    exact j_sel [0, 1] rfl h
set_option maxHeartbeats 2000000 in
theorem b_M_unary_152 {ω : q_W} {σ : q_H} {Q : q_R → q_H → Prop} {d mc ms : Nat} {x3 : Int} {y0 : Int} {y1 : Int} {y2 : Int} {y3 : Int} {s : Nat} (hs : s = 110 ∨ s = 116) (rs0 : q_r σ 94 32 = s) (rs1 : q_r σ 94 33 = (s + 1)) (rs2 : q_r σ 94 34 = (s + 2)) (rs3 : q_r σ 94 35 = (s + 3)) (rs4 : q_r σ 94 36 = (s + 4)) (rs5 : q_r σ 94 37 = (s + 5)) (hE : q_E σ) (h : inR y2 ∧ inR (y1 - y0) ∧ (0 ≤ y3 ∧ y3 < 9000) ∧ (Q (.inl (some (.int (zI x3)))) (zs σ (s + 5) y3.toNat (max y2 (y1 - y0))))) : J ω m_M_unary (d + 1) mc ms 0 0 152 [(3, .int (zI x3))] [.int (zI y0), .int (zI y1), .int (zI y2), .int (zI y3), .ref (s + 5)] σ Q := by
  refine zj_isub (y1 - y0) rfl d_M_unary_152 ?_
  obtain ⟨r16, h⟩ := h
  obtain ⟨r17, h⟩ := h
  refine zj_max (List.mem_of_getElem? (i := 1915) (by decide +kernel)) d_M_unary_153 (Nat.succ_le_succ (Nat.zero_le _)) (Nat.le_of_ble_eq_true rfl) (Nat.zero_le _) (Nat.zero_le _) r16 r17 ?_
  obtain ⟨c18, h⟩ := h
  refine zj_iast d_M_unary_156 (tY_s_5 hE hs) (q_okE hE (by omega)) c18 (by decide) ?_
  refine j_iload_n d_M_unary_157 0 rfl ?_
  exact zj_iret d_M_unary_158 rfl (Nat.zero_le _) (Nat.zero_le _) h
set_option maxHeartbeats 2000000 in
theorem b_M_unary_67 {ω : q_W} {σ : q_H} {Q : q_R → q_H → Prop} {d mc ms : Nat} {x1 : Int} {x3 : Int} {y0 : Int} {s : Nat} (hs : s = 110 ∨ s = 116) (rs0 : q_r σ 94 32 = s) (rs1 : q_r σ 94 33 = (s + 1)) (rs2 : q_r σ 94 34 = (s + 2)) (rs3 : q_r σ 94 35 = (s + 3)) (rs4 : q_r σ 94 36 = (s + 4)) (rs5 : q_r σ 94 37 = (s + 5)) (hE : q_E σ) (h : (J ω m_M_node d 0 0 0 0 0 [(0, .ref 94), (1, .int (zI y0)), (2, .int (zI x3)), (3, .int (zI 0)), (4, .int (zI 0))] [] σ (q_ki (fun v τ => J ω m_M_unary (d + 1) mc ms 0 0 73 [(0, .ref 94), (1, .int (zI x1)), (3, .int (zI x3))] [.int (zI v)] τ Q)))) : J ω m_M_unary (d + 1) mc ms 0 0 67 [(0, .ref 94), (1, .int (zI x1)), (3, .int (zI x3))] [.int (zI y0), .ref 94] σ Q := by
  refine j_iload_n d_M_unary_67 2 rfl ?_
  refine j_iconst (v := zI 0) d_M_unary_68 (by decide) ?_
  refine j_iconst (v := zI 0) d_M_unary_69 (by decide) ?_
  refine j_callV m_M_node [.int (zI y0), .int (zI x3), .int (zI 0), .int (zI 0)] [] d 0 0 cV_M_270 d_M_unary_70 rfl rfl (tg_94 hE) (q_okE hE (by decide)) (Nat.le_of_ble_eq_true rfl) (Nat.le_refl _) (Nat.le_of_ble_eq_true rfl) (Nat.zero_le _) (Nat.zero_le _) h (fun v τ h => ?_) (fun x τ h => ?_)
  · obtain ⟨v, hv, e1, h⟩ := h; cases e1; exact j_sel [0, 1, 2] rfl h
  · obtain ⟨v, hv, e1, h⟩ := h; cases e1
set_option maxHeartbeats 2000000 in
theorem b_M_unary_206 {ω : q_W} {σ : q_H} {Q : q_R → q_H → Prop} {d mc ms : Nat} {x3 : Int} {y0 : Int} {y1 : Int} {s : Nat} (hs : s = 110 ∨ s = 116) (rs0 : q_r σ 94 32 = s) (rs1 : q_r σ 94 33 = (s + 1)) (rs2 : q_r σ 94 34 = (s + 2)) (rs3 : q_r σ 94 35 = (s + 3)) (rs4 : q_r σ 94 36 = (s + 4)) (rs5 : q_r σ 94 37 = (s + 5)) (hE : q_E σ) (h : inR x3 ∧ q_imp (0 ≤ x3) ((0 ≤ x3 ∧ x3 < 400) ∧ (J ω m_M_unary (d + 1) mc ms 0 0 220 [(0, .ref 94), (3, .int (zI x3))] [.int (zI (z σ 103 x3.toNat)), .int (zI y0), .int (zI y1), .ref 94] σ Q)) ∧ q_imp (x3 < 0) ((J ω m_M_unary (d + 1) mc ms 0 0 220 [(0, .ref 94), (3, .int (zI x3))] [.int (zI 0), .int (zI y0), .int (zI y1), .ref 94] σ Q))) : J ω m_M_unary (d + 1) mc ms 0 0 206 [(0, .ref 94), (3, .int (zI x3))] [.int (zI y0), .int (zI y1), .ref 94] σ Q := by
  refine j_iload_n d_M_unary_206 1 rfl ?_
  obtain ⟨r19, h⟩ := h
  obtain ⟨h1, h2⟩ := h
  refine zj_if_ge 214 d_M_unary_207 (by decide) r19 (fun k20 => ?_) (fun k20 => ?_)
  · have h := h1 k20
    refine j_aload_n d_M_unary_214 0 rfl ?_
    refine j_getR 103 f_M_40 d_M_unary_215 (tg_94 hE) (q_okE hE (by decide)) (rf_94_14 hE) (by decide) ?_
    refine j_iload_n d_M_unary_218 1 rfl ?_
    obtain ⟨c21, h⟩ := h
    refine zj_iald (z σ 103 x3.toNat) d_M_unary_219 (tg_103 hE) (q_okE hE (by decide)) c21 (by decide) (q_z _ _ _) ?_
    exact j_sel [0, 1] rfl h
  · have h := h2 k20
    refine j_iconst (v := zI 0) d_M_unary_210 (by decide) ?_
    refine j_goto 220 d_M_unary_211 (by decide) ?_
    exact j_sel [0, 1] rfl h
set_option maxHeartbeats 2000000 in
theorem b_M_unary_73 {ω : q_W} {σ : q_H} {Q : q_R → q_H → Prop} {d mc ms : Nat} {x1 : Int} {x3 : Int} {y0 : Int} {s : Nat} (hs : s = 110 ∨ s = 116) (rs0 : q_r σ 94 32 = s) (rs1 : q_r σ 94 33 = (s + 1)) (rs2 : q_r σ 94 34 = (s + 2)) (rs3 : q_r σ 94 35 = (s + 3)) (rs4 : q_r σ 94 36 = (s + 4)) (rs5 : q_r σ 94 37 = (s + 5)) (hE : q_E σ) (h : inR x1 ∧ q_imp (x1 ≠ 33) ((0 ≤ x3 ∧ x3 < 9000) ∧ (0 ≤ y0 ∧ y0 < 9000) ∧ (Q (.inl (some (.int (zI y0)))) (zs σ (s + 5) y0.toNat (z σ (s + 5) x3.toNat)))) ∧ q_imp (x1 = 33) ((0 ≤ y0 ∧ y0 < 9000) ∧ (Q (.inl (some (.int (zI y0)))) (zs σ (s + 5) y0.toNat 1)))) : J ω m_M_unary (d + 1) mc ms 0 0 73 [(0, .ref 94), (1, .int (zI x1)), (3, .int (zI x3))] [.int (zI y0)] σ Q := by
  refine j_istore (L' := [(4, .int (zI y0)), (0, .ref 94), (1, .int (zI x1)), (3, .int (zI x3))]) d_M_unary_73 (by decide) rfl ?_
  refine j_aload_n d_M_unary_75 1 rfl ?_
  refine j_getR (s + 5) f_M_76 d_M_unary_76 (tg_94 hE) (q_okE hE (by decide)) (rs5) (by omega) ?_
  refine j_iload d_M_unary_79 0 rfl ?_
  refine j_iload_n d_M_unary_81 2 rfl ?_
  refine j_bipush (v := zI 33) d_M_unary_82 (by decide) ?_
  obtain ⟨r22, h⟩ := h
  obtain ⟨h1, h2⟩ := h
  refine zj_icmp_ne 91 d_M_unary_84 (by decide) r22 ⟨by decide, by decide⟩ (fun k23 => ?_) (fun k23 => ?_)
  · have h := h1 k23
    refine j_aload_n d_M_unary_91 1 rfl ?_
    refine j_getR (s + 5) f_M_76 d_M_unary_92 (tg_94 hE) (q_okE hE (by decide)) (rs5) (by omega) ?_
    refine j_iload_n d_M_unary_95 3 rfl ?_
    obtain ⟨c24, h⟩ := h
    refine zj_iald (z σ (s + 5) x3.toNat) d_M_unary_96 (tY_s_5 hE hs) (q_okE hE (by omega)) c24 (by decide) (q_z _ _ _) ?_
    obtain ⟨c25, h⟩ := h
    refine zj_iast d_M_unary_97 (tY_s_5 hE hs) (q_okE hE (by omega)) c25 (by decide) ?_
    refine j_iload d_M_unary_98 0 rfl ?_
    exact zj_iret d_M_unary_100 rfl (Nat.zero_le _) (Nat.zero_le _) h
  · have h := h2 k23
    refine j_iconst (v := zI 1) d_M_unary_87 (by decide) ?_
    refine j_goto 97 d_M_unary_88 (by decide) ?_
    obtain ⟨c26, h⟩ := h
    refine zj_iast d_M_unary_97 (tY_s_5 hE hs) (q_okE hE (by omega)) c26 (by decide) ?_
    refine j_iload d_M_unary_98 0 rfl ?_
    exact zj_iret d_M_unary_100 rfl (Nat.zero_le _) (Nat.zero_le _) h
set_option maxHeartbeats 2000000 in
theorem b_M_unary_220 {ω : q_W} {σ : q_H} {Q : q_R → q_H → Prop} {d mc ms : Nat} {x3 : Int} {y0 : Int} {y1 : Int} {y2 : Int} {s : Nat} (hs : s = 110 ∨ s = 116) (rs0 : q_r σ 94 32 = s) (rs1 : q_r σ 94 33 = (s + 1)) (rs2 : q_r σ 94 34 = (s + 2)) (rs3 : q_r σ 94 35 = (s + 3)) (rs4 : q_r σ 94 36 = (s + 4)) (rs5 : q_r σ 94 37 = (s + 5)) (hE : q_E σ) (h : (J ω m_M_node d 0 0 0 0 0 [(0, .ref 94), (1, .int (zI y2)), (2, .int (zI y1)), (3, .int (zI y0)), (4, .int (zI 0))] [] σ (q_ki (fun v τ => J ω m_M_unary (d + 1) mc ms 0 0 224 [(0, .ref 94), (3, .int (zI x3))] [.int (zI v)] τ Q)))) : J ω m_M_unary (d + 1) mc ms 0 0 220 [(0, .ref 94), (3, .int (zI x3))] [.int (zI y0), .int (zI y1), .int (zI y2), .ref 94] σ Q := by
  refine j_iconst (v := zI 0) d_M_unary_220 (by decide) ?_
  refine j_callV m_M_node [.int (zI y2), .int (zI y1), .int (zI y0), .int (zI 0)] [] d 0 0 cV_M_270 d_M_unary_221 rfl rfl (tg_94 hE) (q_okE hE (by decide)) (Nat.le_of_ble_eq_true rfl) (Nat.le_refl _) (Nat.le_of_ble_eq_true rfl) (Nat.zero_le _) (Nat.zero_le _) h (fun v τ h => ?_) (fun x τ h => ?_)
  · obtain ⟨v, hv, e1, h⟩ := h; cases e1; exact j_sel [0, 1] rfl h
  · obtain ⟨v, hv, e1, h⟩ := h; cases e1
set_option maxHeartbeats 2000000 in
theorem b_M_unary_224 {ω : q_W} {σ : q_H} {Q : q_R → q_H → Prop} {d mc ms : Nat} {x3 : Int} {y0 : Int} {s : Nat} (hs : s = 110 ∨ s = 116) (rs0 : q_r σ 94 32 = s) (rs1 : q_r σ 94 33 = (s + 1)) (rs2 : q_r σ 94 34 = (s + 2)) (rs3 : q_r σ 94 35 = (s + 3)) (rs4 : q_r σ 94 36 = (s + 4)) (rs5 : q_r σ 94 37 = (s + 5)) (hE : q_E σ) (h : inR x3 ∧ q_imp (0 ≤ x3) ((0 ≤ x3 ∧ x3 < 400) ∧ (0 ≤ y0 ∧ y0 < 9000) ∧ (Q (.inl (some (.int (zI y0)))) (zs σ (s + 5) y0.toNat (z σ 105 x3.toNat)))) ∧ q_imp (x3 < 0) ((0 ≤ y0 ∧ y0 < 9000) ∧ (Q (.inl (some (.int (zI y0)))) (zs σ (s + 5) y0.toNat 1)))) : J ω m_M_unary (d + 1) mc ms 0 0 224 [(0, .ref 94), (3, .int (zI x3))] [.int (zI y0)] σ Q := by
  refine j_istore (L' := [(4, .int (zI y0)), (0, .ref 94), (3, .int (zI x3))]) d_M_unary_224 (by decide) rfl ?_
  refine j_aload_n d_M_unary_226 1 rfl ?_
  refine j_getR (s + 5) f_M_76 d_M_unary_227 (tg_94 hE) (q_okE hE (by decide)) (rs5) (by omega) ?_
  refine j_iload d_M_unary_230 0 rfl ?_
  refine j_iload_n d_M_unary_232 2 rfl ?_
  obtain ⟨r27, h⟩ := h
  obtain ⟨h1, h2⟩ := h
  refine zj_if_ge 240 d_M_unary_233 (by decide) r27 (fun k28 => ?_) (fun k28 => ?_)
  · have h := h1 k28
    refine j_aload_n d_M_unary_240 1 rfl ?_
    refine j_getR 105 f_M_46 d_M_unary_241 (tg_94 hE) (q_okE hE (by decide)) (rf_94_16 hE) (by decide) ?_
    refine j_iload_n d_M_unary_244 2 rfl ?_
    obtain ⟨c29, h⟩ := h
    refine zj_iald (z σ 105 x3.toNat) d_M_unary_245 (tg_105 hE) (q_okE hE (by decide)) c29 (by decide) (q_z _ _ _) ?_
    obtain ⟨c30, h⟩ := h
    refine zj_iast d_M_unary_246 (tY_s_5 hE hs) (q_okE hE (by omega)) c30 (by decide) ?_
    refine j_iload d_M_unary_247 0 rfl ?_
    exact zj_iret d_M_unary_249 rfl (Nat.zero_le _) (Nat.zero_le _) h
  · have h := h2 k28
    refine j_iconst (v := zI 1) d_M_unary_236 (by decide) ?_
    refine j_goto 246 d_M_unary_237 (by decide) ?_
    obtain ⟨c31, h⟩ := h
    refine zj_iast d_M_unary_246 (tY_s_5 hE hs) (q_okE hE (by omega)) c31 (by decide) ?_
    refine j_iload d_M_unary_247 0 rfl ?_
    exact zj_iret d_M_unary_249 rfl (Nat.zero_le _) (Nat.zero_le _) h
set_option maxHeartbeats 2000000 in
theorem b_M_node_0 {ω : q_W} {σ : q_H} {Q : q_R → q_H → Prop} {d mc ms : Nat} {x1 : Int} {x2 : Int} {x3 : Int} {x4 : Int} {s : Nat} (hs : s = 110 ∨ s = 116) (rs0 : q_r σ 94 32 = s) (rs1 : q_r σ 94 33 = (s + 1)) (rs2 : q_r σ 94 34 = (s + 2)) (rs3 : q_r σ 94 35 = (s + 3)) (rs4 : q_r σ 94 36 = (s + 4)) (rs5 : q_r σ 94 37 = (s + 5)) (hE : q_E σ) (h : (0 ≤ (z σ 94 44) ∧ (z σ 94 44) < 9000) ∧ (Q (.inl (some (.int (zI (z σ 94 44))))) (zs (zs (zs (zs (zs (zs (zs σ s (z σ 94 44).toNat x1) (s + 1) (z σ 94 44).toNat x2) (s + 2) (z σ 94 44).toNat x3) (s + 3) (z σ 94 44).toNat x4) (s + 4) (z σ 94 44).toNat (-1)) (s + 5) (z σ 94 44).toNat 0) 94 44 ((z σ 94 44) + 1)))) : J ω m_M_node d mc ms 0 0 0 [(0, .ref 94), (1, .int (zI x1)), (2, .int (zI x2)), (3, .int (zI x3)), (4, .int (zI x4))] [] σ Q := by
  refine j_aload_n d_M_node_0 0 rfl ?_
  refine j_getR s f_M_61 d_M_node_1 (tg_94 hE) (q_okE hE (by decide)) (rs0) (by omega) ?_
  refine j_aload_n d_M_node_4 0 rfl ?_
  refine zj_getI (z σ 94 44) f_M_243 d_M_node_5 (tg_94 hE) (q_okE hE (by decide)) (q_z _ _ _) ?_
  refine j_iload_n d_M_node_8 1 rfl ?_
  obtain ⟨c1, h⟩ := h
  refine zj_iast d_M_node_9 (tY_s_0 hE hs) (q_okE hE (by omega)) c1 (by decide) ?_
  refine j_aload_n d_M_node_10 0 rfl ?_
  refine j_getR (s + 1) f_M_64 d_M_node_11 (tg_94 (zs_E hE)) (q_okE (zs_E hE) (by decide)) (Eq.trans (zs_r) (rs1)) (by omega) ?_
  refine j_aload_n d_M_node_14 0 rfl ?_
  refine zj_getI (z σ 94 44) f_M_243 d_M_node_15 (tg_94 (zs_E hE)) (q_okE (zs_E hE) (by decide)) (Eq.trans (qs_o (by omega)) (q_z _ _ _)) ?_
  refine j_iload_n d_M_node_18 2 rfl ?_
  refine zj_iast d_M_node_19 (tY_s_1 (zs_E hE) hs) (q_okE (zs_E hE) (by omega)) c1 (by decide) ?_
  refine j_aload_n d_M_node_20 0 rfl ?_
  refine j_getR (s + 2) f_M_67 d_M_node_21 (tg_94 (zs_E (zs_E hE))) (q_okE (zs_E (zs_E hE)) (by decide)) (Eq.trans (zs_r) (Eq.trans (zs_r) (rs2))) (by omega) ?_
  refine j_aload_n d_M_node_24 0 rfl ?_
  refine zj_getI (z σ 94 44) f_M_243 d_M_node_25 (tg_94 (zs_E (zs_E hE))) (q_okE (zs_E (zs_E hE)) (by decide)) (Eq.trans (qs_o (by omega)) (Eq.trans (qs_o (by omega)) (q_z _ _ _))) ?_
  refine j_iload_n d_M_node_28 3 rfl ?_
  refine zj_iast d_M_node_29 (tY_s_2 (zs_E (zs_E hE)) hs) (q_okE (zs_E (zs_E hE)) (by omega)) c1 (by decide) ?_
  refine j_aload_n d_M_node_30 0 rfl ?_
  refine j_getR (s + 3) f_M_70 d_M_node_31 (tg_94 (zs_E (zs_E (zs_E hE)))) (q_okE (zs_E (zs_E (zs_E hE))) (by decide)) (Eq.trans (zs_r) (Eq.trans (zs_r) (Eq.trans (zs_r) (rs3)))) (by omega) ?_
  refine j_aload_n d_M_node_34 0 rfl ?_
  refine zj_getI (z σ 94 44) f_M_243 d_M_node_35 (tg_94 (zs_E (zs_E (zs_E hE)))) (q_okE (zs_E (zs_E (zs_E hE))) (by decide)) (Eq.trans (qs_o (by omega)) (Eq.trans (qs_o (by omega)) (Eq.trans (qs_o (by omega)) (q_z _ _ _)))) ?_
  refine j_iload d_M_node_38 4 rfl ?_
  refine zj_iast d_M_node_40 (tY_s_3 (zs_E (zs_E (zs_E hE))) hs) (q_okE (zs_E (zs_E (zs_E hE))) (by omega)) c1 (by decide) ?_
  refine j_aload_n d_M_node_41 0 rfl ?_
  refine j_getR (s + 4) f_M_73 d_M_node_42 (tg_94 (zs_E (zs_E (zs_E (zs_E hE))))) (q_okE (zs_E (zs_E (zs_E (zs_E hE)))) (by decide)) (Eq.trans (zs_r) (Eq.trans (zs_r) (Eq.trans (zs_r) (Eq.trans (zs_r) (rs4))))) (by omega) ?_
  refine j_aload_n d_M_node_45 0 rfl ?_
  refine zj_getI (z σ 94 44) f_M_243 d_M_node_46 (tg_94 (zs_E (zs_E (zs_E (zs_E hE))))) (q_okE (zs_E (zs_E (zs_E (zs_E hE)))) (by decide)) (Eq.trans (qs_o (by omega)) (Eq.trans (qs_o (by omega)) (Eq.trans (qs_o (by omega)) (Eq.trans (qs_o (by omega)) (q_z _ _ _))))) ?_
  refine j_iconst (v := zI (-1)) d_M_node_49 (by decide) ?_
  refine zj_iast d_M_node_50 (tY_s_4 (zs_E (zs_E (zs_E (zs_E hE)))) hs) (q_okE (zs_E (zs_E (zs_E (zs_E hE)))) (by omega)) c1 (by decide) ?_
  refine j_aload_n d_M_node_51 0 rfl ?_
  refine j_getR (s + 5) f_M_76 d_M_node_52 (tg_94 (zs_E (zs_E (zs_E (zs_E (zs_E hE)))))) (q_okE (zs_E (zs_E (zs_E (zs_E (zs_E hE))))) (by decide)) (Eq.trans (zs_r) (Eq.trans (zs_r) (Eq.trans (zs_r) (Eq.trans (zs_r) (Eq.trans (zs_r) (rs5)))))) (by omega) ?_
  refine j_aload_n d_M_node_55 0 rfl ?_
  refine zj_getI (z σ 94 44) f_M_243 d_M_node_56 (tg_94 (zs_E (zs_E (zs_E (zs_E (zs_E hE)))))) (q_okE (zs_E (zs_E (zs_E (zs_E (zs_E hE))))) (by decide)) (Eq.trans (qs_o (by omega)) (Eq.trans (qs_o (by omega)) (Eq.trans (qs_o (by omega)) (Eq.trans (qs_o (by omega)) (Eq.trans (qs_o (by omega)) (q_z _ _ _)))))) ?_
  refine j_iconst (v := zI 0) d_M_node_59 (by decide) ?_
  refine zj_iast d_M_node_60 (tY_s_5 (zs_E (zs_E (zs_E (zs_E (zs_E hE))))) hs) (q_okE (zs_E (zs_E (zs_E (zs_E (zs_E hE))))) (by omega)) c1 (by decide) ?_
  refine j_aload_n d_M_node_61 0 rfl ?_
  refine j_dup d_M_node_62 rfl ?_
  refine zj_getI (z σ 94 44) f_M_243 d_M_node_63 (tg_94 (zs_E (zs_E (zs_E (zs_E (zs_E (zs_E hE))))))) (q_okE (zs_E (zs_E (zs_E (zs_E (zs_E (zs_E hE)))))) (by decide)) (Eq.trans (qs_o (by omega)) (Eq.trans (qs_o (by omega)) (Eq.trans (qs_o (by omega)) (Eq.trans (qs_o (by omega)) (Eq.trans (qs_o (by omega)) (Eq.trans (qs_o (by omega)) (q_z _ _ _))))))) ?_
  refine j_iconst (v := zI 1) d_M_node_66 (by decide) ?_
  refine zj_iadd ((z σ 94 44) + 1) (by omega) d_M_node_67 ?_
  refine zj_putI (g_M_243 _) d_M_node_68 (tg_94 (zs_E (zs_E (zs_E (zs_E (zs_E (zs_E hE))))))) (q_okE (zs_E (zs_E (zs_E (zs_E (zs_E (zs_E hE)))))) (by decide)) ?_
  refine j_aload_n d_M_node_71 0 rfl ?_
  refine zj_getI ((z σ 94 44) + 1) f_M_243 d_M_node_72 (tg_94 (zs_E (zs_E (zs_E (zs_E (zs_E (zs_E (zs_E hE)))))))) (q_okE (zs_E (zs_E (zs_E (zs_E (zs_E (zs_E (zs_E hE))))))) (by decide)) (qs_s) ?_
  refine j_iconst (v := zI 1) d_M_node_75 (by decide) ?_
  refine zj_isub (z σ 94 44) (by omega) d_M_node_76 ?_
  exact zj_iret d_M_node_77 rfl (Nat.zero_le _) (Nat.zero_le _) h
set_option maxHeartbeats 2000000 in
theorem b_M_inBrackets_0 {ω : q_W} {σ : q_H} {Q : q_R → q_H → Prop} {d mc ms : Nat}  {s : Nat} (hs : s = 110 ∨ s = 116) (rs0 : q_r σ 94 32 = s) (rs1 : q_r σ 94 33 = (s + 1)) (rs2 : q_r σ 94 34 = (s + 2)) (rs3 : q_r σ 94 35 = (s + 3)) (rs4 : q_r σ 94 36 = (s + 4)) (rs5 : q_r σ 94 37 = (s + 5)) (hE : q_E σ) (h : (J ω m_M_expect d 0 0 0 0 0 [(0, .ref 94), (1, .int (zI 40))] [] σ (q_ox (q_ki (fun v τ => J ω m_M_inBrackets (d + 1) mc ms 0 0 6 [(0, .ref 94)] [.int (zI v)] τ Q)) (fun x τ => Q (.inr x) τ)))) : J ω m_M_inBrackets (d + 1) mc ms 0 0 0 [(0, .ref 94)] [] σ Q := by
  refine j_aload_n d_M_inBrackets_0 0 rfl ?_
  refine j_bipush (v := zI 40) d_M_inBrackets_1 (by decide) ?_
  refine j_callV m_M_expect [.int (zI 40)] [] d 0 0 cV_M_249 d_M_inBrackets_3 rfl rfl (tg_94 hE) (q_okE hE (by decide)) (Nat.le_of_ble_eq_true rfl) (Nat.le_refl _) (Nat.le_of_ble_eq_true rfl) (Nat.zero_le _) (Nat.zero_le _) h (fun v τ h => ?_) (fun x τ h => ?_)
  · rcases h with h | ⟨x, e1, h⟩
    · obtain ⟨v, hv, e1, h⟩ := h; cases e1; exact j_sel [0] rfl h
    · cases e1
  · rcases h with h | ⟨y, e1, h⟩
    · obtain ⟨v, hv, e1, h⟩ := h; cases e1
    · cases e1; exact jt_out rfl (Nat.zero_le _) (Nat.zero_le _) h
set_option maxHeartbeats 2000000 in
theorem b_M_inBrackets_6 {ω : q_W} {σ : q_H} {Q : q_R → q_H → Prop} {d mc ms : Nat} {y0 : Int} {s : Nat} (hs : s = 110 ∨ s = 116) (rs0 : q_r σ 94 32 = s) (rs1 : q_r σ 94 33 = (s + 1)) (rs2 : q_r σ 94 34 = (s + 2)) (rs3 : q_r σ 94 35 = (s + 3)) (rs4 : q_r σ 94 36 = (s + 4)) (rs5 : q_r σ 94 37 = (s + 5)) (hE : q_E σ) (h : (J ω m_M_expr d 0 0 0 0 0 [(0, .ref 94)] [] (zs σ 94 9 ((z σ 94 9) + 1)) (q_ox (q_ki (fun v τ => J ω m_M_inBrackets (d + 1) mc ms 0 0 21 [(0, .ref 94)] [.int (zI v)] τ Q)) (fun x τ => Q (.inr x) τ)))) : J ω m_M_inBrackets (d + 1) mc ms 0 0 6 [(0, .ref 94)] [.int (zI y0)] σ Q := by
  refine j_istore_n (L' := [(1, .int (zI y0)), (0, .ref 94)]) d_M_inBrackets_6 (by decide) rfl ?_
  refine j_aload_n d_M_inBrackets_7 1 rfl ?_
  refine j_dup d_M_inBrackets_8 rfl ?_
  refine zj_getI (z σ 94 9) f_M_224 d_M_inBrackets_9 (tg_94 hE) (q_okE hE (by decide)) (q_z _ _ _) ?_
  refine j_iconst (v := zI 1) d_M_inBrackets_12 (by decide) ?_
  refine zj_iadd ((z σ 94 9) + 1) (by omega) d_M_inBrackets_13 ?_
  refine zj_putI (g_M_224 _) d_M_inBrackets_14 (tg_94 hE) (q_okE hE (by decide)) ?_
  refine j_aload_n d_M_inBrackets_17 1 rfl ?_
  refine j_callV m_M_expr [] [] d 0 0 cV_M_267 d_M_inBrackets_18 rfl rfl (tg_94 (zs_E hE)) (q_okE (zs_E hE) (by decide)) (Nat.le_of_ble_eq_true rfl) (Nat.le_refl _) (Nat.le_of_ble_eq_true rfl) (Nat.zero_le _) (Nat.zero_le _) h (fun v τ h => ?_) (fun x τ h => ?_)
  · rcases h with h | ⟨x, e1, h⟩
    · obtain ⟨v, hv, e1, h⟩ := h; cases e1; exact j_sel [1] rfl h
    · cases e1
  · rcases h with h | ⟨y, e1, h⟩
    · obtain ⟨v, hv, e1, h⟩ := h; cases e1
    · cases e1; exact jt_out rfl (Nat.zero_le _) (Nat.zero_le _) h
set_option maxHeartbeats 2000000 in
theorem b_M_inBrackets_21 {ω : q_W} {σ : q_H} {Q : q_R → q_H → Prop} {d mc ms : Nat} {y0 : Int} {s : Nat} (hs : s = 110 ∨ s = 116) (rs0 : q_r σ 94 32 = s) (rs1 : q_r σ 94 33 = (s + 1)) (rs2 : q_r σ 94 34 = (s + 2)) (rs3 : q_r σ 94 35 = (s + 3)) (rs4 : q_r σ 94 36 = (s + 4)) (rs5 : q_r σ 94 37 = (s + 5)) (hE : q_E σ) (h : (J ω m_M_expect d 0 0 0 0 0 [(0, .ref 94), (1, .int (zI 41))] [] (zs σ 94 9 ((z σ 94 9) - 1)) (q_ox (q_ki (fun v τ => J ω m_M_inBrackets (d + 1) mc ms 0 0 38 [(2, .int (zI y0))] [.int (zI v)] τ Q)) (fun x τ => Q (.inr x) τ)))) : J ω m_M_inBrackets (d + 1) mc ms 0 0 21 [(0, .ref 94)] [.int (zI y0)] σ Q := by
  refine j_istore_n (L' := [(2, .int (zI y0)), (0, .ref 94)]) d_M_inBrackets_21 (by decide) rfl ?_
  refine j_aload_n d_M_inBrackets_22 1 rfl ?_
  refine j_dup d_M_inBrackets_23 rfl ?_
  refine zj_getI (z σ 94 9) f_M_224 d_M_inBrackets_24 (tg_94 hE) (q_okE hE (by decide)) (q_z _ _ _) ?_
  refine j_iconst (v := zI 1) d_M_inBrackets_27 (by decide) ?_
  refine zj_isub ((z σ 94 9) - 1) (by omega) d_M_inBrackets_28 ?_
  refine zj_putI (g_M_224 _) d_M_inBrackets_29 (tg_94 hE) (q_okE hE (by decide)) ?_
  refine j_aload_n d_M_inBrackets_32 1 rfl ?_
  refine j_bipush (v := zI 41) d_M_inBrackets_33 (by decide) ?_
  refine j_callV m_M_expect [.int (zI 41)] [] d 0 0 cV_M_249 d_M_inBrackets_35 rfl rfl (tg_94 (zs_E hE)) (q_okE (zs_E hE) (by decide)) (Nat.le_of_ble_eq_true rfl) (Nat.le_refl _) (Nat.le_of_ble_eq_true rfl) (Nat.zero_le _) (Nat.zero_le _) h (fun v τ h => ?_) (fun x τ h => ?_)
  · rcases h with h | ⟨x, e1, h⟩
    · obtain ⟨v, hv, e1, h⟩ := h; cases e1; exact j_sel [0] rfl h
    · cases e1
  · rcases h with h | ⟨y, e1, h⟩
    · obtain ⟨v, hv, e1, h⟩ := h; cases e1
    · cases e1; exact jt_out rfl (Nat.zero_le _) (Nat.zero_le _) h
set_option maxHeartbeats 2000000 in
theorem b_M_inBrackets_38 {ω : q_W} {σ : q_H} {Q : q_R → q_H → Prop} {d mc ms : Nat} {x2 : Int} {y0 : Int} {s : Nat} (hs : s = 110 ∨ s = 116) (rs0 : q_r σ 94 32 = s) (rs1 : q_r σ 94 33 = (s + 1)) (rs2 : q_r σ 94 34 = (s + 2)) (rs3 : q_r σ 94 35 = (s + 3)) (rs4 : q_r σ 94 36 = (s + 4)) (rs5 : q_r σ 94 37 = (s + 5)) (hE : q_E σ) (h : (Q (.inl (some (.int (zI x2)))) σ)) : J ω m_M_inBrackets (d + 1) mc ms 0 0 38 [(2, .int (zI x2))] [.int (zI y0)] σ Q := by
  refine j_istore_n (L' := [(1, .int (zI y0)), (2, .int (zI x2))]) d_M_inBrackets_38 (by decide) rfl ?_
  refine j_iload_n d_M_inBrackets_39 1 rfl ?_
  exact zj_iret d_M_inBrackets_40 rfl (Nat.zero_le _) (Nat.zero_le _) h
theorem o_M_levelOf_1 {x : Int} (cs37 : ¬ x = 37) (cs38 : ¬ x = 38) (cs42 : ¬ x = 42) (cs43 : ¬ x = 43) (cs45 : ¬ x = 45) (cs47 : ¬ x = 47) (cs60 : ¬ x = 60) (cs62 : ¬ x = 62) (cs94 : ¬ x = 94) (cs124 : ¬ x = 124) (cs265 : ¬ x = 265) (cs266 : ¬ x = 266) (cs267 : ¬ x = 267) (cs268 : ¬ x = 268) (cs269 : ¬ x = 269) (cs270 : ¬ x = 270) (cs271 : ¬ x = 271) (cs272 : ¬ x = 272) : ¬ 37 = x ∧ ¬ 38 = x ∧ ¬ 42 = x ∧ ¬ 43 = x ∧ ¬ 45 = x ∧ ¬ 47 = x ∧ ¬ 60 = x ∧ ¬ 62 = x ∧ ¬ 94 = x ∧ ¬ 124 = x ∧ ¬ 265 = x ∧ ¬ 266 = x ∧ ¬ 267 = x ∧ ¬ 268 = x ∧ ¬ 269 = x ∧ ¬ 270 = x ∧ ¬ 271 = x ∧ ¬ 272 = x := by omega
set_option maxHeartbeats 2000000 in
theorem b_M_levelOf_0 {ω : q_W} {σ : q_H} {Q : q_R → q_H → Prop} {d mc ms : Nat} {x0 : Int}  (hE : q_E σ) (h : inR x0 ∧ q_imp (x0 = 37 ∨ x0 = 42 ∨ x0 = 47) ((Q (.inl (some (.int (zI 10)))) σ)) ∧ q_imp (x0 = 38) ((Q (.inl (some (.int (zI 5)))) σ)) ∧ q_imp (x0 = 43 ∨ x0 = 45) ((Q (.inl (some (.int (zI 9)))) σ)) ∧ q_imp (x0 = 60 ∨ x0 = 62 ∨ x0 = 267 ∨ x0 = 268) ((Q (.inl (some (.int (zI 7)))) σ)) ∧ q_imp (x0 = 94) ((Q (.inl (some (.int (zI 4)))) σ)) ∧ q_imp (x0 = 124) ((Q (.inl (some (.int (zI 3)))) σ)) ∧ q_imp (x0 = 265 ∨ x0 = 266) ((Q (.inl (some (.int (zI 6)))) σ)) ∧ q_imp (x0 = 269 ∨ x0 = 270) ((Q (.inl (some (.int (zI 8)))) σ)) ∧ q_imp (x0 = 271) ((Q (.inl (some (.int (zI 2)))) σ)) ∧ q_imp (x0 = 272) ((Q (.inl (some (.int (zI 1)))) σ)) ∧ q_imp (x0 ≠ 37 ∧ x0 ≠ 38 ∧ x0 ≠ 42 ∧ x0 ≠ 43 ∧ x0 ≠ 45 ∧ x0 ≠ 47 ∧ x0 ≠ 60 ∧ x0 ≠ 62 ∧ x0 ≠ 94 ∧ x0 ≠ 124 ∧ x0 ≠ 265 ∧ x0 ≠ 266 ∧ x0 ≠ 267 ∧ x0 ≠ 268 ∧ x0 ≠ 269 ∧ x0 ≠ 270 ∧ x0 ≠ 271 ∧ x0 ≠ 272) ((Q (.inl (some (.int (zI 0)))) σ))) : J ω m_M_levelOf d mc ms 0 0 0 [(0, .int (zI x0))] [] σ Q := by
  refine j_iload_n d_M_levelOf_0 0 rfl ?_
  obtain ⟨r1, h⟩ := h
  obtain ⟨g178, g164, g175, g169, g162, g160, g166, g172, g158, g156, gD⟩ := h
  have jg178 : q_imp (x0 = 37 ∨ x0 = 42 ∨ x0 = 47) (J ω m_M_levelOf d mc ms 0 0 178 [(0, .int (zI x0))] [] σ Q) := by
    intro c
    have h := g178 c
    refine j_bipush (v := zI 10) d_M_levelOf_178 (by decide) ?_
    exact zj_iret d_M_levelOf_180 rfl (Nat.zero_le _) (Nat.zero_le _) h
  have jg164 : q_imp (x0 = 38) (J ω m_M_levelOf d mc ms 0 0 164 [(0, .int (zI x0))] [] σ Q) := by
    intro c
    have h := g164 c
    refine j_iconst (v := zI 5) d_M_levelOf_164 (by decide) ?_
    exact zj_iret d_M_levelOf_165 rfl (Nat.zero_le _) (Nat.zero_le _) h
  have jg175 : q_imp (x0 = 43 ∨ x0 = 45) (J ω m_M_levelOf d mc ms 0 0 175 [(0, .int (zI x0))] [] σ Q) := by
    intro c
    have h := g175 c
    refine j_bipush (v := zI 9) d_M_levelOf_175 (by decide) ?_
    exact zj_iret d_M_levelOf_177 rfl (Nat.zero_le _) (Nat.zero_le _) h
  have jg169 : q_imp (x0 = 60 ∨ x0 = 62 ∨ x0 = 267 ∨ x0 = 268) (J ω m_M_levelOf d mc ms 0 0 169 [(0, .int (zI x0))] [] σ Q) := by
    intro c
    have h := g169 c
    refine j_bipush (v := zI 7) d_M_levelOf_169 (by decide) ?_
    exact zj_iret d_M_levelOf_171 rfl (Nat.zero_le _) (Nat.zero_le _) h
  have jg162 : q_imp (x0 = 94) (J ω m_M_levelOf d mc ms 0 0 162 [(0, .int (zI x0))] [] σ Q) := by
    intro c
    have h := g162 c
    refine j_iconst (v := zI 4) d_M_levelOf_162 (by decide) ?_
    exact zj_iret d_M_levelOf_163 rfl (Nat.zero_le _) (Nat.zero_le _) h
  have jg160 : q_imp (x0 = 124) (J ω m_M_levelOf d mc ms 0 0 160 [(0, .int (zI x0))] [] σ Q) := by
    intro c
    have h := g160 c
    refine j_iconst (v := zI 3) d_M_levelOf_160 (by decide) ?_
    exact zj_iret d_M_levelOf_161 rfl (Nat.zero_le _) (Nat.zero_le _) h
  have jg166 : q_imp (x0 = 265 ∨ x0 = 266) (J ω m_M_levelOf d mc ms 0 0 166 [(0, .int (zI x0))] [] σ Q) := by
    intro c
    have h := g166 c
    refine j_bipush (v := zI 6) d_M_levelOf_166 (by decide) ?_
    exact zj_iret d_M_levelOf_168 rfl (Nat.zero_le _) (Nat.zero_le _) h
  have jg172 : q_imp (x0 = 269 ∨ x0 = 270) (J ω m_M_levelOf d mc ms 0 0 172 [(0, .int (zI x0))] [] σ Q) := by
    intro c
    have h := g172 c
    refine j_bipush (v := zI 8) d_M_levelOf_172 (by decide) ?_
    exact zj_iret d_M_levelOf_174 rfl (Nat.zero_le _) (Nat.zero_le _) h
  have jg158 : q_imp (x0 = 271) (J ω m_M_levelOf d mc ms 0 0 158 [(0, .int (zI x0))] [] σ Q) := by
    intro c
    have h := g158 c
    refine j_iconst (v := zI 2) d_M_levelOf_158 (by decide) ?_
    exact zj_iret d_M_levelOf_159 rfl (Nat.zero_le _) (Nat.zero_le _) h
  have jg156 : q_imp (x0 = 272) (J ω m_M_levelOf d mc ms 0 0 156 [(0, .int (zI x0))] [] σ Q) := by
    intro c
    have h := g156 c
    refine j_iconst (v := zI 1) d_M_levelOf_156 (by decide) ?_
    exact zj_iret d_M_levelOf_157 rfl (Nat.zero_le _) (Nat.zero_le _) h
  have jgD : q_imp (x0 ≠ 37 ∧ x0 ≠ 38 ∧ x0 ≠ 42 ∧ x0 ≠ 43 ∧ x0 ≠ 45 ∧ x0 ≠ 47 ∧ x0 ≠ 60 ∧ x0 ≠ 62 ∧ x0 ≠ 94 ∧ x0 ≠ 124 ∧ x0 ≠ 265 ∧ x0 ≠ 266 ∧ x0 ≠ 267 ∧ x0 ≠ 268 ∧ x0 ≠ 269 ∧ x0 ≠ 270 ∧ x0 ≠ 271 ∧ x0 ≠ 272) (J ω m_M_levelOf d mc ms 0 0 181 [(0, .int (zI x0))] [] σ Q) := by
    intro c
    have h := gD c
    refine j_iconst (v := zI 0) d_M_levelOf_181 (by decide) ?_
    exact zj_iret d_M_levelOf_182 rfl (Nat.zero_le _) (Nat.zero_le _) h
  by_cases cs37 : x0 = 37
  · exact j_topE (v := zI 37) (by rw [cs37]) (j_lookup 178 d_M_levelOf_1 (by decide) (by rfl) (by decide) (jg178 (Or.inl cs37)))
  by_cases cs38 : x0 = 38
  · exact j_topE (v := zI 38) (by rw [cs38]) (j_lookup 164 d_M_levelOf_1 (by decide) (by rfl) (by decide) (jg164 cs38))
  by_cases cs42 : x0 = 42
  · exact j_topE (v := zI 42) (by rw [cs42]) (j_lookup 178 d_M_levelOf_1 (by decide) (by rfl) (by decide) (jg178 (Or.inr (Or.inl cs42))))
  by_cases cs43 : x0 = 43
  · exact j_topE (v := zI 43) (by rw [cs43]) (j_lookup 175 d_M_levelOf_1 (by decide) (by rfl) (by decide) (jg175 (Or.inl cs43)))
  by_cases cs45 : x0 = 45
  · exact j_topE (v := zI 45) (by rw [cs45]) (j_lookup 175 d_M_levelOf_1 (by decide) (by rfl) (by decide) (jg175 (Or.inr (cs45))))
  by_cases cs47 : x0 = 47
  · exact j_topE (v := zI 47) (by rw [cs47]) (j_lookup 178 d_M_levelOf_1 (by decide) (by rfl) (by decide) (jg178 (Or.inr (Or.inr (cs47)))))
  by_cases cs60 : x0 = 60
  · exact j_topE (v := zI 60) (by rw [cs60]) (j_lookup 169 d_M_levelOf_1 (by decide) (by rfl) (by decide) (jg169 (Or.inl cs60)))
  by_cases cs62 : x0 = 62
  · exact j_topE (v := zI 62) (by rw [cs62]) (j_lookup 169 d_M_levelOf_1 (by decide) (by rfl) (by decide) (jg169 (Or.inr (Or.inl cs62))))
  by_cases cs94 : x0 = 94
  · exact j_topE (v := zI 94) (by rw [cs94]) (j_lookup 162 d_M_levelOf_1 (by decide) (by rfl) (by decide) (jg162 cs94))
  by_cases cs124 : x0 = 124
  · exact j_topE (v := zI 124) (by rw [cs124]) (j_lookup 160 d_M_levelOf_1 (by decide) (by rfl) (by decide) (jg160 cs124))
  by_cases cs265 : x0 = 265
  · exact j_topE (v := zI 265) (by rw [cs265]) (j_lookup 166 d_M_levelOf_1 (by decide) (by rfl) (by decide) (jg166 (Or.inl cs265)))
  by_cases cs266 : x0 = 266
  · exact j_topE (v := zI 266) (by rw [cs266]) (j_lookup 166 d_M_levelOf_1 (by decide) (by rfl) (by decide) (jg166 (Or.inr (cs266))))
  by_cases cs267 : x0 = 267
  · exact j_topE (v := zI 267) (by rw [cs267]) (j_lookup 169 d_M_levelOf_1 (by decide) (by rfl) (by decide) (jg169 (Or.inr (Or.inr (Or.inl cs267)))))
  by_cases cs268 : x0 = 268
  · exact j_topE (v := zI 268) (by rw [cs268]) (j_lookup 169 d_M_levelOf_1 (by decide) (by rfl) (by decide) (jg169 (Or.inr (Or.inr (Or.inr (cs268))))))
  by_cases cs269 : x0 = 269
  · exact j_topE (v := zI 269) (by rw [cs269]) (j_lookup 172 d_M_levelOf_1 (by decide) (by rfl) (by decide) (jg172 (Or.inl cs269)))
  by_cases cs270 : x0 = 270
  · exact j_topE (v := zI 270) (by rw [cs270]) (j_lookup 172 d_M_levelOf_1 (by decide) (by rfl) (by decide) (jg172 (Or.inr (cs270))))
  by_cases cs271 : x0 = 271
  · exact j_topE (v := zI 271) (by rw [cs271]) (j_lookup 158 d_M_levelOf_1 (by decide) (by rfl) (by decide) (jg158 cs271))
  by_cases cs272 : x0 = 272
  · exact j_topE (v := zI 272) (by rw [cs272]) (j_lookup 156 d_M_levelOf_1 (by decide) (by rfl) (by decide) (jg156 cs272))
  exact zj_lookd 181 d_M_levelOf_1 (by decide) r1 (by simp; exact o_M_levelOf_1 cs37 cs38 cs42 cs43 cs45 cs47 cs60 cs62 cs94 cs124 cs265 cs266 cs267 cs268 cs269 cs270 cs271 cs272) (by decide) (jgD ⟨cs37, cs38, cs42, cs43, cs45, cs47, cs60, cs62, cs94, cs124, cs265, cs266, cs267, cs268, cs269, cs270, cs271, cs272⟩)
set_option maxHeartbeats 2000000 in
theorem b_M_refused_0 {ω : q_W} {σ : q_H} {Q : q_R → q_H → Prop} {d mc ms : Nat} {x1 : Int} {x2 : Int} {s : Nat} (hs : s = 110 ∨ s = 116) (rs0 : q_r σ 94 32 = s) (rs1 : q_r σ 94 33 = (s + 1)) (rs2 : q_r σ 94 34 = (s + 2)) (rs3 : q_r σ 94 35 = (s + 3)) (rs4 : q_r σ 94 36 = (s + 4)) (rs5 : q_r σ 94 37 = (s + 5)) {u : Nat} (hu : u = 110 ∨ u = 116) (ru0 : q_r σ 94 38 = u) (ru1 : q_r σ 94 39 = (u + 1)) (ru2 : q_r σ 94 40 = (u + 2)) (ru3 : q_r σ 94 41 = (u + 3)) (ru4 : q_r σ 94 42 = (u + 4)) (ru5 : q_r σ 94 43 = (u + 5)) (hE : q_E σ) (h : (J ω m_M_swap d 0 0 0 0 0 [(0, .ref 94)] [] (zs (zs σ 94 50 x1) 94 51 x2) (q_kv (fun τ => J ω m_M_refused (d + 1) mc ms 0 0 14 [(0, .ref 94)] [] τ Q)))) : J ω m_M_refused (d + 1) mc ms 0 0 0 [(0, .ref 94), (1, .int (zI x1)), (2, .int (zI x2))] [] σ Q := by
  refine j_aload_n d_M_refused_0 0 rfl ?_
  refine j_iload_n d_M_refused_1 1 rfl ?_
  refine zj_putI (g_M_330 _) d_M_refused_2 (tg_94 hE) (q_okE hE (by decide)) ?_
  refine j_aload_n d_M_refused_5 0 rfl ?_
  refine j_iload_n d_M_refused_6 2 rfl ?_
  refine zj_putI (g_M_101 _) d_M_refused_7 (tg_94 (zs_E hE)) (q_okE (zs_E hE) (by decide)) ?_
  refine j_aload_n d_M_refused_10 0 rfl ?_
  refine j_callV m_M_swap [] [] d 0 0 cV_M_333 d_M_refused_11 rfl rfl (tg_94 (zs_E (zs_E hE))) (q_okE (zs_E (zs_E hE)) (by decide)) (Nat.le_of_ble_eq_true rfl) (Nat.le_refl _) (Nat.le_of_ble_eq_true rfl) (Nat.zero_le _) (Nat.zero_le _) h (fun v τ h => ?_) (fun x τ h => ?_)
  · obtain ⟨e1, h⟩ := h; cases e1; exact j_sel [0] rfl h
  · obtain ⟨e1, h⟩ := h; cases e1
set_option maxHeartbeats 2000000 in
theorem b_M_refused_14 {ω : q_W} {σ : q_H} {Q : q_R → q_H → Prop} {d mc ms : Nat}  {s : Nat} (hs : s = 110 ∨ s = 116) (rs0 : q_r σ 94 32 = s) (rs1 : q_r σ 94 33 = (s + 1)) (rs2 : q_r σ 94 34 = (s + 2)) (rs3 : q_r σ 94 35 = (s + 3)) (rs4 : q_r σ 94 36 = (s + 4)) (rs5 : q_r σ 94 37 = (s + 5)) {u : Nat} (hu : u = 110 ∨ u = 116) (ru0 : q_r σ 94 38 = u) (ru1 : q_r σ 94 39 = (u + 1)) (ru2 : q_r σ 94 40 = (u + 2)) (ru3 : q_r σ 94 41 = (u + 3)) (ru4 : q_r σ 94 42 = (u + 4)) (ru5 : q_r σ 94 43 = (u + 5)) (hE : q_E σ) (h : (J ω m_M_no d 0 0 0 0 0 [(0, .ref 94), (1, .int (zI 1))] [] (zs σ 94 2 0) (q_ki (fun v τ => J ω m_M_refused (d + 1) mc ms 0 0 24 [] [.int (zI v)] τ Q)))) : J ω m_M_refused (d + 1) mc ms 0 0 14 [(0, .ref 94)] [] σ Q := by
  refine j_aload_n d_M_refused_14 0 rfl ?_
  refine j_iconst (v := zI 0) d_M_refused_15 (by decide) ?_
  refine zj_putI (g_M_144 _) d_M_refused_16 (tg_94 hE) (q_okE hE (by decide)) ?_
  refine j_aload_n d_M_refused_19 0 rfl ?_
  refine j_iconst (v := zI 1) d_M_refused_20 (by decide) ?_
  refine j_callV m_M_no [.int (zI 1)] [] d 0 0 cV_M_147 d_M_refused_21 rfl rfl (tg_94 (zs_E hE)) (q_okE (zs_E hE) (by decide)) (Nat.le_of_ble_eq_true rfl) (Nat.le_refl _) (Nat.le_of_ble_eq_true rfl) (Nat.zero_le _) (Nat.zero_le _) h (fun v τ h => ?_) (fun x τ h => ?_)
  · obtain ⟨v, hv, e1, h⟩ := h; cases e1; exact j_sel [] rfl h
  · obtain ⟨v, hv, e1, h⟩ := h; cases e1
set_option maxHeartbeats 2000000 in
theorem b_M_refused_24 {ω : q_W} {σ : q_H} {Q : q_R → q_H → Prop} {d mc ms : Nat} {y0 : Int} {s : Nat} (hs : s = 110 ∨ s = 116) (rs0 : q_r σ 94 32 = s) (rs1 : q_r σ 94 33 = (s + 1)) (rs2 : q_r σ 94 34 = (s + 2)) (rs3 : q_r σ 94 35 = (s + 3)) (rs4 : q_r σ 94 36 = (s + 4)) (rs5 : q_r σ 94 37 = (s + 5)) {u : Nat} (hu : u = 110 ∨ u = 116) (ru0 : q_r σ 94 38 = u) (ru1 : q_r σ 94 39 = (u + 1)) (ru2 : q_r σ 94 40 = (u + 2)) (ru3 : q_r σ 94 41 = (u + 3)) (ru4 : q_r σ 94 42 = (u + 4)) (ru5 : q_r σ 94 43 = (u + 5)) (hE : q_E σ) (h : (Q (.inl (some (.int (zI y0)))) σ)) : J ω m_M_refused (d + 1) mc ms 0 0 24 [] [.int (zI y0)] σ Q := by
  exact zj_iret d_M_refused_24 rfl (Nat.zero_le _) (Nat.zero_le _) h
set_option maxHeartbeats 2000000 in
theorem b_M_workOfAll_0 {ω : q_W} {σ : q_H} {Q : q_R → q_H → Prop} {d mc ms : Nat} {x1 : Int} {s : Nat} (hs : s = 110 ∨ s = 116) (rs0 : q_r σ 94 32 = s) (rs1 : q_r σ 94 33 = (s + 1)) (rs2 : q_r σ 94 34 = (s + 2)) (rs3 : q_r σ 94 35 = (s + 3)) (rs4 : q_r σ 94 36 = (s + 4)) (rs5 : q_r σ 94 37 = (s + 5)) (hE : q_E σ) (h : (J ω m_M_workOfAll (d + 1) mc ms 0 0 5 [(0, .ref 94), (2, .long 0), (4, .int (zI x1))] [] σ Q)) : J ω m_M_workOfAll (d + 1) mc ms 0 0 0 [(0, .ref 94), (1, .int (zI x1))] [] σ Q := by
  refine j_lconst (v := 0) d_M_workOfAll_0 (by decide) ?_
  refine j_lstore_n (L' := [(2, .long 0), (0, .ref 94), (1, .int (zI x1))]) d_M_workOfAll_1 (by decide) rfl ?_
  refine j_iload_n d_M_workOfAll_2 2 rfl ?_
  refine j_istore (L' := [(4, .int (zI x1)), (2, .long 0), (0, .ref 94), (1, .int (zI x1))]) d_M_workOfAll_3 (by decide) rfl ?_
  exact j_sel [2, 1, 0] rfl h
set_option maxHeartbeats 2000000 in
theorem b_M_workOfAll_5 {ω : q_W} {σ : q_H} {Q : q_R → q_H → Prop} {d mc ms : Nat} {x2 : Int64} {x4 : Int} {s : Nat} (hs : s = 110 ∨ s = 116) (rs0 : q_r σ 94 32 = s) (rs1 : q_r σ 94 33 = (s + 1)) (rs2 : q_r σ 94 34 = (s + 2)) (rs3 : q_r σ 94 35 = (s + 3)) (rs4 : q_r σ 94 36 = (s + 4)) (rs5 : q_r σ 94 37 = (s + 5)) (hE : q_E σ) (h : inR x4 ∧ q_imp (x4 < 0) ((Q (.inl (some (.long x2))) σ)) ∧ q_imp (0 ≤ x4) ((J ω m_M_workOfOne d 0 0 0 0 0 [(0, .ref 94), (1, .int (zI x4))] [] σ (q_kl (fun v τ => J ω m_M_workOfAll (d + 1) mc ms 0 0 17 [(0, .ref 94), (4, .int (zI x4))] [.long v, .long x2] τ Q))))) : J ω m_M_workOfAll (d + 1) mc ms 0 0 5 [(0, .ref 94), (2, .long x2), (4, .int (zI x4))] [] σ Q := by
  refine j_iload d_M_workOfAll_5 2 rfl ?_
  obtain ⟨r1, h⟩ := h
  obtain ⟨h1, h2⟩ := h
  refine zj_if_lt 34 d_M_workOfAll_7 (by decide) r1 (fun k2 => ?_) (fun k2 => ?_)
  · have h := h1 k2
    refine j_lload_n d_M_workOfAll_34 1 rfl ?_
    exact j_lret d_M_workOfAll_35 rfl (Nat.zero_le _) (Nat.zero_le _) h
  · have h := h2 k2
    refine j_lload_n d_M_workOfAll_10 1 rfl ?_
    refine j_aload_n d_M_workOfAll_11 0 rfl ?_
    refine j_iload d_M_workOfAll_12 2 rfl ?_
    refine j_callV m_M_workOfOne [.int (zI x4)] [.long x2] d 0 0 cV_M_319 d_M_workOfAll_14 rfl rfl (tg_94 hE) (q_okE hE (by decide)) (Nat.le_of_ble_eq_true rfl) (Nat.le_refl _) (Nat.le_of_ble_eq_true rfl) (Nat.zero_le _) (Nat.zero_le _) h (fun v τ h => ?_) (fun x τ h => ?_)
    · obtain ⟨v, e1, h⟩ := h; cases e1; exact j_sel [0, 2] rfl h
    · obtain ⟨v, e1, h⟩ := h; cases e1
set_option maxHeartbeats 2000000 in
theorem b_M_workOfAll_17 {ω : q_W} {σ : q_H} {Q : q_R → q_H → Prop} {d mc ms : Nat} {x4 : Int} {y0 : Int64} {y1 : Int64} {s : Nat} (hs : s = 110 ∨ s = 116) (rs0 : q_r σ 94 32 = s) (rs1 : q_r σ 94 33 = (s + 1)) (rs2 : q_r σ 94 34 = (s + 2)) (rs3 : q_r σ 94 35 = (s + 3)) (rs4 : q_r σ 94 36 = (s + 4)) (rs5 : q_r σ 94 37 = (s + 5)) (hE : q_E σ) (h : (J ω m_M_most d 0 0 0 0 0 [(0, .long (y1 + y0))] [] σ (q_kl (fun v τ => J ω m_M_workOfAll (d + 1) mc ms 0 0 21 [(0, .ref 94), (4, .int (zI x4))] [.long v] τ Q)))) : J ω m_M_workOfAll (d + 1) mc ms 0 0 17 [(0, .ref 94), (4, .int (zI x4))] [.long y0, .long y1] σ Q := by
  refine j_ladd d_M_workOfAll_17 ?_
  refine j_callS m_M_most [.long (y1 + y0)] [] d 0 0 cS_M_312 d_M_workOfAll_18 rfl rfl (Nat.le_of_ble_eq_true rfl) (Nat.le_refl _) (Nat.le_of_ble_eq_true rfl) (Nat.zero_le _) (Nat.zero_le _) h (fun v τ h => ?_) (fun x τ h => ?_)
  · obtain ⟨v, e1, h⟩ := h; cases e1; exact j_sel [0, 1] rfl h
  · obtain ⟨v, e1, h⟩ := h; cases e1
set_option maxHeartbeats 2000000 in
theorem b_M_workOfAll_21 {ω : q_W} {σ : q_H} {Q : q_R → q_H → Prop} {d mc ms : Nat} {x4 : Int} {y0 : Int64} {s : Nat} (hs : s = 110 ∨ s = 116) (rs0 : q_r σ 94 32 = s) (rs1 : q_r σ 94 33 = (s + 1)) (rs2 : q_r σ 94 34 = (s + 2)) (rs3 : q_r σ 94 35 = (s + 3)) (rs4 : q_r σ 94 36 = (s + 4)) (rs5 : q_r σ 94 37 = (s + 5)) (hE : q_E σ) (h : (0 ≤ x4 ∧ x4 < 9000) ∧ (J ω m_M_workOfAll (d + 1) mc ms 0 0 5 [(0, .ref 94), (2, .long y0), (4, .int (zI (z σ (s + 4) x4.toNat)))] [] σ Q)) : J ω m_M_workOfAll (d + 1) mc ms 0 0 21 [(0, .ref 94), (4, .int (zI x4))] [.long y0] σ Q := by
  refine j_lstore_n (L' := [(2, .long y0), (0, .ref 94), (4, .int (zI x4))]) d_M_workOfAll_21 (by decide) rfl ?_
  refine j_aload_n d_M_workOfAll_22 1 rfl ?_
  refine j_getR (s + 4) f_M_73 d_M_workOfAll_23 (tg_94 hE) (q_okE hE (by decide)) (rs4) (by omega) ?_
  refine j_iload d_M_workOfAll_26 2 rfl ?_
  obtain ⟨c3, h⟩ := h
  refine zj_iald (z σ (s + 4) x4.toNat) d_M_workOfAll_28 (tY_s_4 hE hs) (q_okE hE (by omega)) c3 (by decide) (q_z _ _ _) ?_
  refine j_istore (L' := [(4, .int (zI (z σ (s + 4) x4.toNat))), (2, .long y0), (0, .ref 94)]) d_M_workOfAll_29 (by decide) rfl ?_
  refine j_goto 5 d_M_workOfAll_31 (by decide) ?_
  exact j_sel [2, 1, 0] rfl h
theorem o_M_workOfOne_6 {x : Int} (cs258 : ¬ x = 258) (cs260 : ¬ x = 260) (cs275 : ¬ x = 275) (cs276 : ¬ x = 276) : ¬ 258 = x ∧ ¬ 260 = x ∧ ¬ 275 = x ∧ ¬ 276 = x := by omega
set_option maxHeartbeats 2000000 in
theorem b_M_workOfOne_0 {ω : q_W} {σ : q_H} {Q : q_R → q_H → Prop} {d mc ms : Nat} {x1 : Int} {s : Nat} (hs : s = 110 ∨ s = 116) (rs0 : q_r σ 94 32 = s) (rs1 : q_r σ 94 33 = (s + 1)) (rs2 : q_r σ 94 34 = (s + 2)) (rs3 : q_r σ 94 35 = (s + 3)) (rs4 : q_r σ 94 36 = (s + 4)) (rs5 : q_r σ 94 37 = (s + 5)) (hE : q_E σ) (h : (0 ≤ x1 ∧ x1 < 9000) ∧ q_imp ((z σ s x1.toNat) = 258) ((J ω m_M_workOf d 0 0 0 0 0 [(0, .ref 94), (1, .int (zI (z σ (s + 1) x1.toNat)))] [] σ (q_kl (fun v τ => J ω m_M_workOfOne (d + 1) mc ms 0 0 87 [(0, .ref 94), (1, .int (zI x1))] [.long v] τ Q)))) ∧ q_imp ((z σ s x1.toNat) = 260) ((J ω m_M_workOf d 0 0 0 0 0 [(0, .ref 94), (1, .int (zI (z σ (s + 1) x1.toNat)))] [] σ (q_kl (fun v τ => J ω m_M_workOfOne (d + 1) mc ms 0 0 153 [(0, .ref 94), (1, .int (zI x1))] [.long v, .long (zI (z σ (s + 3) x1.toNat)).toInt64] τ Q)))) ∧ q_imp ((z σ s x1.toNat) = 275) ((J ω m_M_workOfAll d 0 0 0 0 0 [(0, .ref 94), (1, .int (zI (z σ (s + 1) x1.toNat)))] [] σ (q_kl (fun v τ => J ω m_M_workOfOne (d + 1) mc ms 0 0 58 [] [.long v] τ Q)))) ∧ q_imp ((z σ s x1.toNat) = 276) ((J ω m_M_workOf d 0 0 0 0 0 [(0, .ref 94), (1, .int (zI (z σ (s + 2) x1.toNat)))] [] σ (q_kl (fun v τ => J ω m_M_workOfOne (d + 1) mc ms 0 0 69 [] [.long v] τ Q)))) ∧ q_imp ((z σ s x1.toNat) ≠ 258 ∧ (z σ s x1.toNat) ≠ 260 ∧ (z σ s x1.toNat) ≠ 275 ∧ (z σ s x1.toNat) ≠ 276) ((J ω m_M_workOf d 0 0 0 0 0 [(0, .ref 94), (1, .int (zI (z σ (s + 1) x1.toNat)))] [] σ (q_kl (fun v τ => J ω m_M_workOfOne (d + 1) mc ms 0 0 200 [] [.long v] τ Q))))) : J ω m_M_workOfOne (d + 1) mc ms 0 0 0 [(0, .ref 94), (1, .int (zI x1))] [] σ Q := by
  refine j_aload_n d_M_workOfOne_0 0 rfl ?_
  refine j_getR s f_M_61 d_M_workOfOne_1 (tg_94 hE) (q_okE hE (by decide)) (rs0) (by omega) ?_
  refine j_iload_n d_M_workOfOne_4 1 rfl ?_
  obtain ⟨c1, h⟩ := h
  refine zj_iald (z σ s x1.toNat) d_M_workOfOne_5 (tY_s_0 hE hs) (q_okE hE (by omega)) c1 (by decide) (q_z _ _ _) ?_
  obtain ⟨g77, g136, g48, g59, gD⟩ := h
  have jg77 : q_imp ((z σ s x1.toNat) = 258) (J ω m_M_workOfOne (d + 1) mc ms 0 0 77 [(0, .ref 94), (1, .int (zI x1))] [] σ Q) := by
    intro c
    have h := g77 c
    refine j_aload_n d_M_workOfOne_77 0 rfl ?_
    refine j_aload_n d_M_workOfOne_78 0 rfl ?_
    refine j_getR (s + 1) f_M_64 d_M_workOfOne_79 (tg_94 hE) (q_okE hE (by decide)) (rs1) (by omega) ?_
    refine j_iload_n d_M_workOfOne_82 1 rfl ?_
    refine zj_iald (z σ (s + 1) x1.toNat) d_M_workOfOne_83 (tY_s_1 hE hs) (q_okE hE (by omega)) c1 (by decide) (q_z _ _ _) ?_
    refine j_callV m_M_workOf [.int (zI (z σ (s + 1) x1.toNat))] [] d 0 0 cV_M_308 d_M_workOfOne_84 rfl rfl (tg_94 hE) (q_okE hE (by decide)) (Nat.le_of_ble_eq_true rfl) (Nat.le_refl _) (Nat.le_of_ble_eq_true rfl) (Nat.zero_le _) (Nat.zero_le _) h (fun v τ h => ?_) (fun x τ h => ?_)
    · obtain ⟨v, e1, h⟩ := h; cases e1; exact j_sel [0, 1] rfl h
    · obtain ⟨v, e1, h⟩ := h; cases e1
  have jg136 : q_imp ((z σ s x1.toNat) = 260) (J ω m_M_workOfOne (d + 1) mc ms 0 0 136 [(0, .ref 94), (1, .int (zI x1))] [] σ Q) := by
    intro c
    have h := g136 c
    refine j_aload_n d_M_workOfOne_136 0 rfl ?_
    refine j_getR (s + 3) f_M_70 d_M_workOfOne_137 (tg_94 hE) (q_okE hE (by decide)) (rs3) (by omega) ?_
    refine j_iload_n d_M_workOfOne_140 1 rfl ?_
    refine zj_iald (z σ (s + 3) x1.toNat) d_M_workOfOne_141 (tY_s_3 hE hs) (q_okE hE (by omega)) c1 (by decide) (q_z _ _ _) ?_
    refine j_i2l d_M_workOfOne_142 ?_
    refine j_aload_n d_M_workOfOne_143 0 rfl ?_
    refine j_aload_n d_M_workOfOne_144 0 rfl ?_
    refine j_getR (s + 1) f_M_64 d_M_workOfOne_145 (tg_94 hE) (q_okE hE (by decide)) (rs1) (by omega) ?_
    refine j_iload_n d_M_workOfOne_148 1 rfl ?_
    refine zj_iald (z σ (s + 1) x1.toNat) d_M_workOfOne_149 (tY_s_1 hE hs) (q_okE hE (by omega)) c1 (by decide) (q_z _ _ _) ?_
    refine j_callV m_M_workOf [.int (zI (z σ (s + 1) x1.toNat))] [.long (zI (z σ (s + 3) x1.toNat)).toInt64] d 0 0 cV_M_308 d_M_workOfOne_150 rfl rfl (tg_94 hE) (q_okE hE (by decide)) (Nat.le_of_ble_eq_true rfl) (Nat.le_refl _) (Nat.le_of_ble_eq_true rfl) (Nat.zero_le _) (Nat.zero_le _) h (fun v τ h => ?_) (fun x τ h => ?_)
    · obtain ⟨v, e1, h⟩ := h; cases e1; exact j_sel [0, 1] rfl h
    · obtain ⟨v, e1, h⟩ := h; cases e1
  have jg48 : q_imp ((z σ s x1.toNat) = 275) (J ω m_M_workOfOne (d + 1) mc ms 0 0 48 [(0, .ref 94), (1, .int (zI x1))] [] σ Q) := by
    intro c
    have h := g48 c
    refine j_aload_n d_M_workOfOne_48 0 rfl ?_
    refine j_aload_n d_M_workOfOne_49 0 rfl ?_
    refine j_getR (s + 1) f_M_64 d_M_workOfOne_50 (tg_94 hE) (q_okE hE (by decide)) (rs1) (by omega) ?_
    refine j_iload_n d_M_workOfOne_53 1 rfl ?_
    refine zj_iald (z σ (s + 1) x1.toNat) d_M_workOfOne_54 (tY_s_1 hE hs) (q_okE hE (by omega)) c1 (by decide) (q_z _ _ _) ?_
    refine j_callV m_M_workOfAll [.int (zI (z σ (s + 1) x1.toNat))] [] d 0 0 cV_M_322 d_M_workOfOne_55 rfl rfl (tg_94 hE) (q_okE hE (by decide)) (Nat.le_of_ble_eq_true rfl) (Nat.le_refl _) (Nat.le_of_ble_eq_true rfl) (Nat.zero_le _) (Nat.zero_le _) h (fun v τ h => ?_) (fun x τ h => ?_)
    · obtain ⟨v, e1, h⟩ := h; cases e1; exact j_sel [] rfl h
    · obtain ⟨v, e1, h⟩ := h; cases e1
  have jg59 : q_imp ((z σ s x1.toNat) = 276) (J ω m_M_workOfOne (d + 1) mc ms 0 0 59 [(0, .ref 94), (1, .int (zI x1))] [] σ Q) := by
    intro c
    have h := g59 c
    refine j_aload_n d_M_workOfOne_59 0 rfl ?_
    refine j_aload_n d_M_workOfOne_60 0 rfl ?_
    refine j_getR (s + 2) f_M_67 d_M_workOfOne_61 (tg_94 hE) (q_okE hE (by decide)) (rs2) (by omega) ?_
    refine j_iload_n d_M_workOfOne_64 1 rfl ?_
    refine zj_iald (z σ (s + 2) x1.toNat) d_M_workOfOne_65 (tY_s_2 hE hs) (q_okE hE (by omega)) c1 (by decide) (q_z _ _ _) ?_
    refine j_callV m_M_workOf [.int (zI (z σ (s + 2) x1.toNat))] [] d 0 0 cV_M_308 d_M_workOfOne_66 rfl rfl (tg_94 hE) (q_okE hE (by decide)) (Nat.le_of_ble_eq_true rfl) (Nat.le_refl _) (Nat.le_of_ble_eq_true rfl) (Nat.zero_le _) (Nat.zero_le _) h (fun v τ h => ?_) (fun x τ h => ?_)
    · obtain ⟨v, e1, h⟩ := h; cases e1; exact j_sel [] rfl h
    · obtain ⟨v, e1, h⟩ := h; cases e1
  have jgD : q_imp ((z σ s x1.toNat) ≠ 258 ∧ (z σ s x1.toNat) ≠ 260 ∧ (z σ s x1.toNat) ≠ 275 ∧ (z σ s x1.toNat) ≠ 276) (J ω m_M_workOfOne (d + 1) mc ms 0 0 190 [(0, .ref 94), (1, .int (zI x1))] [] σ Q) := by
    intro c
    have h := gD c
    refine j_aload_n d_M_workOfOne_190 0 rfl ?_
    refine j_aload_n d_M_workOfOne_191 0 rfl ?_
    refine j_getR (s + 1) f_M_64 d_M_workOfOne_192 (tg_94 hE) (q_okE hE (by decide)) (rs1) (by omega) ?_
    refine j_iload_n d_M_workOfOne_195 1 rfl ?_
    refine zj_iald (z σ (s + 1) x1.toNat) d_M_workOfOne_196 (tY_s_1 hE hs) (q_okE hE (by omega)) c1 (by decide) (q_z _ _ _) ?_
    refine j_callV m_M_workOf [.int (zI (z σ (s + 1) x1.toNat))] [] d 0 0 cV_M_308 d_M_workOfOne_197 rfl rfl (tg_94 hE) (q_okE hE (by decide)) (Nat.le_of_ble_eq_true rfl) (Nat.le_refl _) (Nat.le_of_ble_eq_true rfl) (Nat.zero_le _) (Nat.zero_le _) h (fun v τ h => ?_) (fun x τ h => ?_)
    · obtain ⟨v, e1, h⟩ := h; cases e1; exact j_sel [] rfl h
    · obtain ⟨v, e1, h⟩ := h; cases e1
  by_cases cs258 : (z σ s x1.toNat) = 258
  · exact j_topE (v := zI 258) (by rw [cs258]) (j_lookup 77 d_M_workOfOne_6 (by decide) (by rfl) (by decide) (jg77 cs258))
  by_cases cs260 : (z σ s x1.toNat) = 260
  · exact j_topE (v := zI 260) (by rw [cs260]) (j_lookup 136 d_M_workOfOne_6 (by decide) (by rfl) (by decide) (jg136 cs260))
  by_cases cs275 : (z σ s x1.toNat) = 275
  · exact j_topE (v := zI 275) (by rw [cs275]) (j_lookup 48 d_M_workOfOne_6 (by decide) (by rfl) (by decide) (jg48 cs275))
  by_cases cs276 : (z σ s x1.toNat) = 276
  · exact j_topE (v := zI 276) (by rw [cs276]) (j_lookup 59 d_M_workOfOne_6 (by decide) (by rfl) (by decide) (jg59 cs276))
  exact zj_lookd 190 d_M_workOfOne_6 (by decide) (z_R _ _ _) (by simp; exact o_M_workOfOne_6 cs258 cs260 cs275 cs276) (by decide) (jgD ⟨cs258, cs260, cs275, cs276⟩)
set_option maxHeartbeats 2000000 in
theorem b_M_workOfOne_87 {ω : q_W} {σ : q_H} {Q : q_R → q_H → Prop} {d mc ms : Nat} {x1 : Int} {y0 : Int64} {s : Nat} (hs : s = 110 ∨ s = 116) (rs0 : q_r σ 94 32 = s) (rs1 : q_r σ 94 33 = (s + 1)) (rs2 : q_r σ 94 34 = (s + 2)) (rs3 : q_r σ 94 35 = (s + 3)) (rs4 : q_r σ 94 36 = (s + 4)) (rs5 : q_r σ 94 37 = (s + 5)) (hE : q_E σ) (h : (0 ≤ x1 ∧ x1 < 9000) ∧ (J ω m_M_workOfOne d 0 0 0 0 0 [(0, .ref 94), (1, .int (zI (z σ (s + 2) x1.toNat)))] [] σ (q_kl (fun v τ => J ω m_M_workOfOne (d + 1) mc ms 0 0 97 [(0, .ref 94), (1, .int (zI x1))] [.long v, .long y0] τ Q)))) : J ω m_M_workOfOne (d + 1) mc ms 0 0 87 [(0, .ref 94), (1, .int (zI x1))] [.long y0] σ Q := by
  refine j_aload_n d_M_workOfOne_87 0 rfl ?_
  refine j_aload_n d_M_workOfOne_88 0 rfl ?_
  refine j_getR (s + 2) f_M_67 d_M_workOfOne_89 (tg_94 hE) (q_okE hE (by decide)) (rs2) (by omega) ?_
  refine j_iload_n d_M_workOfOne_92 1 rfl ?_
  obtain ⟨c2, h⟩ := h
  refine zj_iald (z σ (s + 2) x1.toNat) d_M_workOfOne_93 (tY_s_2 hE hs) (q_okE hE (by omega)) c2 (by decide) (q_z _ _ _) ?_
  refine j_callV m_M_workOfOne [.int (zI (z σ (s + 2) x1.toNat))] [.long y0] d 0 0 cV_M_319 d_M_workOfOne_94 rfl rfl (tg_94 hE) (q_okE hE (by decide)) (Nat.le_of_ble_eq_true rfl) (Nat.le_refl _) (Nat.le_of_ble_eq_true rfl) (Nat.zero_le _) (Nat.zero_le _) h (fun v τ h => ?_) (fun x τ h => ?_)
  · obtain ⟨v, e1, h⟩ := h; cases e1; exact j_sel [0, 1] rfl h
  · obtain ⟨v, e1, h⟩ := h; cases e1
set_option maxHeartbeats 2000000 in
theorem b_M_workOfOne_153 {ω : q_W} {σ : q_H} {Q : q_R → q_H → Prop} {d mc ms : Nat} {x1 : Int} {y0 : Int64} {y1 : Int64} {s : Nat} (hs : s = 110 ∨ s = 116) (rs0 : q_r σ 94 32 = s) (rs1 : q_r σ 94 33 = (s + 1)) (rs2 : q_r σ 94 34 = (s + 2)) (rs3 : q_r σ 94 35 = (s + 3)) (rs4 : q_r σ 94 36 = (s + 4)) (rs5 : q_r σ 94 37 = (s + 5)) (hE : q_E σ) (h : (0 ≤ x1 ∧ x1 < 9000) ∧ (J ω m_M_workOfOne d 0 0 0 0 0 [(0, .ref 94), (1, .int (zI (z σ (s + 2) x1.toNat)))] [] σ (q_kl (fun v τ => J ω m_M_workOfOne (d + 1) mc ms 0 0 163 [(0, .ref 94), (1, .int (zI x1))] [.long v, .long y0, .long y1] τ Q)))) : J ω m_M_workOfOne (d + 1) mc ms 0 0 153 [(0, .ref 94), (1, .int (zI x1))] [.long y0, .long y1] σ Q := by
  refine j_aload_n d_M_workOfOne_153 0 rfl ?_
  refine j_aload_n d_M_workOfOne_154 0 rfl ?_
  refine j_getR (s + 2) f_M_67 d_M_workOfOne_155 (tg_94 hE) (q_okE hE (by decide)) (rs2) (by omega) ?_
  refine j_iload_n d_M_workOfOne_158 1 rfl ?_
  obtain ⟨c3, h⟩ := h
  refine zj_iald (z σ (s + 2) x1.toNat) d_M_workOfOne_159 (tY_s_2 hE hs) (q_okE hE (by omega)) c3 (by decide) (q_z _ _ _) ?_
  refine j_callV m_M_workOfOne [.int (zI (z σ (s + 2) x1.toNat))] [.long y0, .long y1] d 0 0 cV_M_319 d_M_workOfOne_160 rfl rfl (tg_94 hE) (q_okE hE (by decide)) (Nat.le_of_ble_eq_true rfl) (Nat.le_refl _) (Nat.le_of_ble_eq_true rfl) (Nat.zero_le _) (Nat.zero_le _) h (fun v τ h => ?_) (fun x τ h => ?_)
  · obtain ⟨v, e1, h⟩ := h; cases e1; exact j_sel [0, 1] rfl h
  · obtain ⟨v, e1, h⟩ := h; cases e1
set_option maxHeartbeats 2000000 in
theorem b_M_workOfOne_58 {ω : q_W} {σ : q_H} {Q : q_R → q_H → Prop} {d mc ms : Nat} {y0 : Int64} {s : Nat} (hs : s = 110 ∨ s = 116) (rs0 : q_r σ 94 32 = s) (rs1 : q_r σ 94 33 = (s + 1)) (rs2 : q_r σ 94 34 = (s + 2)) (rs3 : q_r σ 94 35 = (s + 3)) (rs4 : q_r σ 94 36 = (s + 4)) (rs5 : q_r σ 94 37 = (s + 5)) (hE : q_E σ) (h : (Q (.inl (some (.long y0))) σ)) : J ω m_M_workOfOne (d + 1) mc ms 0 0 58 [] [.long y0] σ Q := by
  exact j_lret d_M_workOfOne_58 rfl (Nat.zero_le _) (Nat.zero_le _) h
set_option maxHeartbeats 2000000 in
theorem b_M_workOfOne_69 {ω : q_W} {σ : q_H} {Q : q_R → q_H → Prop} {d mc ms : Nat} {y0 : Int64} {s : Nat} (hs : s = 110 ∨ s = 116) (rs0 : q_r σ 94 32 = s) (rs1 : q_r σ 94 33 = (s + 1)) (rs2 : q_r σ 94 34 = (s + 2)) (rs3 : q_r σ 94 35 = (s + 3)) (rs4 : q_r σ 94 36 = (s + 4)) (rs5 : q_r σ 94 37 = (s + 5)) (hE : q_E σ) (h : (J ω m_M_most d 0 0 0 0 0 [(0, .long (y0 + 8))] [] σ (q_kl (fun v τ => J ω m_M_workOfOne (d + 1) mc ms 0 0 76 [] [.long v] τ Q)))) : J ω m_M_workOfOne (d + 1) mc ms 0 0 69 [] [.long y0] σ Q := by
  refine j_ldc2 (v := 8) (List.mem_of_getElem? (i := 1950) (by decide +kernel)) d_M_workOfOne_69 ?_
  refine j_ladd d_M_workOfOne_72 ?_
  refine j_callS m_M_most [.long (y0 + 8)] [] d 0 0 cS_M_312 d_M_workOfOne_73 rfl rfl (Nat.le_of_ble_eq_true rfl) (Nat.le_refl _) (Nat.le_of_ble_eq_true rfl) (Nat.zero_le _) (Nat.zero_le _) h (fun v τ h => ?_) (fun x τ h => ?_)
  · obtain ⟨v, e1, h⟩ := h; cases e1; exact j_sel [] rfl h
  · obtain ⟨v, e1, h⟩ := h; cases e1
set_option maxHeartbeats 2000000 in
theorem b_M_workOfOne_200 {ω : q_W} {σ : q_H} {Q : q_R → q_H → Prop} {d mc ms : Nat} {y0 : Int64} {s : Nat} (hs : s = 110 ∨ s = 116) (rs0 : q_r σ 94 32 = s) (rs1 : q_r σ 94 33 = (s + 1)) (rs2 : q_r σ 94 34 = (s + 2)) (rs3 : q_r σ 94 35 = (s + 3)) (rs4 : q_r σ 94 36 = (s + 4)) (rs5 : q_r σ 94 37 = (s + 5)) (hE : q_E σ) (h : (J ω m_M_most d 0 0 0 0 0 [(0, .long (y0 + 8))] [] σ (q_kl (fun v τ => J ω m_M_workOfOne (d + 1) mc ms 0 0 207 [] [.long v] τ Q)))) : J ω m_M_workOfOne (d + 1) mc ms 0 0 200 [] [.long y0] σ Q := by
  refine j_ldc2 (v := 8) (List.mem_of_getElem? (i := 1950) (by decide +kernel)) d_M_workOfOne_200 ?_
  refine j_ladd d_M_workOfOne_203 ?_
  refine j_callS m_M_most [.long (y0 + 8)] [] d 0 0 cS_M_312 d_M_workOfOne_204 rfl rfl (Nat.le_of_ble_eq_true rfl) (Nat.le_refl _) (Nat.le_of_ble_eq_true rfl) (Nat.zero_le _) (Nat.zero_le _) h (fun v τ h => ?_) (fun x τ h => ?_)
  · obtain ⟨v, e1, h⟩ := h; cases e1; exact j_sel [] rfl h
  · obtain ⟨v, e1, h⟩ := h; cases e1
set_option maxHeartbeats 2000000 in
theorem b_M_workOfOne_97 {ω : q_W} {σ : q_H} {Q : q_R → q_H → Prop} {d mc ms : Nat} {x1 : Int} {y0 : Int64} {y1 : Int64} {s : Nat} (hs : s = 110 ∨ s = 116) (rs0 : q_r σ 94 32 = s) (rs1 : q_r σ 94 33 = (s + 1)) (rs2 : q_r σ 94 34 = (s + 2)) (rs3 : q_r σ 94 35 = (s + 3)) (rs4 : q_r σ 94 36 = (s + 4)) (rs5 : q_r σ 94 37 = (s + 5)) (hE : q_E σ) (h : (0 ≤ x1 ∧ x1 < 9000) ∧ q_imp (0 ≤ (z σ (s + 3) x1.toNat)) ((J ω m_M_workOfOne d 0 0 0 0 0 [(0, .ref 94), (1, .int (zI (z σ (s + 3) x1.toNat)))] [] σ (q_kl (fun v τ => J ω m_M_workOfOne (d + 1) mc ms 0 0 121 [(0, .ref 94)] [.long v, .long (y1 + y0)] τ Q)))) ∧ q_imp ((z σ (s + 3) x1.toNat) < 0) ((J ω m_M_workOfOne (d + 1) mc ms 0 0 121 [(0, .ref 94)] [.long 0, .long (y1 + y0)] σ Q))) : J ω m_M_workOfOne (d + 1) mc ms 0 0 97 [(0, .ref 94), (1, .int (zI x1))] [.long y0, .long y1] σ Q := by
  refine j_ladd d_M_workOfOne_97 ?_
  refine j_aload_n d_M_workOfOne_98 0 rfl ?_
  refine j_getR (s + 3) f_M_70 d_M_workOfOne_99 (tg_94 hE) (q_okE hE (by decide)) (rs3) (by omega) ?_
  refine j_iload_n d_M_workOfOne_102 1 rfl ?_
  obtain ⟨c4, h⟩ := h
  refine zj_iald (z σ (s + 3) x1.toNat) d_M_workOfOne_103 (tY_s_3 hE hs) (q_okE hE (by omega)) c4 (by decide) (q_z _ _ _) ?_
  obtain ⟨h1, h2⟩ := h
  refine zj_if_ge 111 d_M_workOfOne_104 (by decide) (z_R _ _ _) (fun k5 => ?_) (fun k5 => ?_)
  · have h := h1 k5
    refine j_aload_n d_M_workOfOne_111 0 rfl ?_
    refine j_aload_n d_M_workOfOne_112 0 rfl ?_
    refine j_getR (s + 3) f_M_70 d_M_workOfOne_113 (tg_94 hE) (q_okE hE (by decide)) (rs3) (by omega) ?_
    refine j_iload_n d_M_workOfOne_116 1 rfl ?_
    refine zj_iald (z σ (s + 3) x1.toNat) d_M_workOfOne_117 (tY_s_3 hE hs) (q_okE hE (by omega)) c4 (by decide) (q_z _ _ _) ?_
    refine j_callV m_M_workOfOne [.int (zI (z σ (s + 3) x1.toNat))] [.long (y1 + y0)] d 0 0 cV_M_319 d_M_workOfOne_118 rfl rfl (tg_94 hE) (q_okE hE (by decide)) (Nat.le_of_ble_eq_true rfl) (Nat.le_refl _) (Nat.le_of_ble_eq_true rfl) (Nat.zero_le _) (Nat.zero_le _) h (fun v τ h => ?_) (fun x τ h => ?_)
    · obtain ⟨v, e1, h⟩ := h; cases e1; exact j_sel [0] rfl h
    · obtain ⟨v, e1, h⟩ := h; cases e1
  · have h := h2 k5
    refine j_lconst (v := 0) d_M_workOfOne_107 (by decide) ?_
    refine j_goto 121 d_M_workOfOne_108 (by decide) ?_
    exact j_sel [0] rfl h
set_option maxHeartbeats 2000000 in
theorem b_M_workOfOne_163 {ω : q_W} {σ : q_H} {Q : q_R → q_H → Prop} {d mc ms : Nat} {x1 : Int} {y0 : Int64} {y1 : Int64} {y2 : Int64} {s : Nat} (hs : s = 110 ∨ s = 116) (rs0 : q_r σ 94 32 = s) (rs1 : q_r σ 94 33 = (s + 1)) (rs2 : q_r σ 94 34 = (s + 2)) (rs3 : q_r σ 94 35 = (s + 3)) (rs4 : q_r σ 94 36 = (s + 4)) (rs5 : q_r σ 94 37 = (s + 5)) (hE : q_E σ) (h : (0 ≤ x1 ∧ x1 < 9000) ∧ (J ω m_M_workOf d 0 0 0 0 0 [(0, .ref 94), (1, .int (zI (z σ (s + 1) x1.toNat)))] [] σ (q_kl (fun v τ => J ω m_M_workOfOne (d + 1) mc ms 0 0 185 [] [.long v, .long (y2 * ((y1 + y0) + (8 * (zI (z σ 94 19)).toInt64)))] τ Q)))) : J ω m_M_workOfOne (d + 1) mc ms 0 0 163 [(0, .ref 94), (1, .int (zI x1))] [.long y0, .long y1, .long y2] σ Q := by
  refine j_ladd d_M_workOfOne_163 ?_
  refine j_ldc2 (v := 8) (List.mem_of_getElem? (i := 1950) (by decide +kernel)) d_M_workOfOne_164 ?_
  refine j_aload_n d_M_workOfOne_167 0 rfl ?_
  refine zj_getI (z σ 94 19) f_M_261 d_M_workOfOne_168 (tg_94 hE) (q_okE hE (by decide)) (q_z _ _ _) ?_
  refine j_i2l d_M_workOfOne_171 ?_
  refine j_lmul d_M_workOfOne_172 ?_
  refine j_ladd d_M_workOfOne_173 ?_
  refine j_lmul d_M_workOfOne_174 ?_
  refine j_aload_n d_M_workOfOne_175 0 rfl ?_
  refine j_aload_n d_M_workOfOne_176 0 rfl ?_
  refine j_getR (s + 1) f_M_64 d_M_workOfOne_177 (tg_94 hE) (q_okE hE (by decide)) (rs1) (by omega) ?_
  refine j_iload_n d_M_workOfOne_180 1 rfl ?_
  obtain ⟨c6, h⟩ := h
  refine zj_iald (z σ (s + 1) x1.toNat) d_M_workOfOne_181 (tY_s_1 hE hs) (q_okE hE (by omega)) c6 (by decide) (q_z _ _ _) ?_
  refine j_callV m_M_workOf [.int (zI (z σ (s + 1) x1.toNat))] [.long (y2 * ((y1 + y0) + (8 * (zI (z σ 94 19)).toInt64)))] d 0 0 cV_M_308 d_M_workOfOne_182 rfl rfl (tg_94 hE) (q_okE hE (by decide)) (Nat.le_of_ble_eq_true rfl) (Nat.le_refl _) (Nat.le_of_ble_eq_true rfl) (Nat.zero_le _) (Nat.zero_le _) h (fun v τ h => ?_) (fun x τ h => ?_)
  · obtain ⟨v, e1, h⟩ := h; cases e1; exact j_sel [] rfl h
  · obtain ⟨v, e1, h⟩ := h; cases e1
set_option maxHeartbeats 2000000 in
theorem b_M_workOfOne_76 {ω : q_W} {σ : q_H} {Q : q_R → q_H → Prop} {d mc ms : Nat} {y0 : Int64} {s : Nat} (hs : s = 110 ∨ s = 116) (rs0 : q_r σ 94 32 = s) (rs1 : q_r σ 94 33 = (s + 1)) (rs2 : q_r σ 94 34 = (s + 2)) (rs3 : q_r σ 94 35 = (s + 3)) (rs4 : q_r σ 94 36 = (s + 4)) (rs5 : q_r σ 94 37 = (s + 5)) (hE : q_E σ) (h : (Q (.inl (some (.long y0))) σ)) : J ω m_M_workOfOne (d + 1) mc ms 0 0 76 [] [.long y0] σ Q := by
  exact j_lret d_M_workOfOne_76 rfl (Nat.zero_le _) (Nat.zero_le _) h
set_option maxHeartbeats 2000000 in
theorem b_M_workOfOne_207 {ω : q_W} {σ : q_H} {Q : q_R → q_H → Prop} {d mc ms : Nat} {y0 : Int64} {s : Nat} (hs : s = 110 ∨ s = 116) (rs0 : q_r σ 94 32 = s) (rs1 : q_r σ 94 33 = (s + 1)) (rs2 : q_r σ 94 34 = (s + 2)) (rs3 : q_r σ 94 35 = (s + 3)) (rs4 : q_r σ 94 36 = (s + 4)) (rs5 : q_r σ 94 37 = (s + 5)) (hE : q_E σ) (h : (Q (.inl (some (.long y0))) σ)) : J ω m_M_workOfOne (d + 1) mc ms 0 0 207 [] [.long y0] σ Q := by
  exact j_lret d_M_workOfOne_207 rfl (Nat.zero_le _) (Nat.zero_le _) h
set_option maxHeartbeats 2000000 in
theorem b_M_workOfOne_121 {ω : q_W} {σ : q_H} {Q : q_R → q_H → Prop} {d mc ms : Nat} {y0 : Int64} {y1 : Int64} {s : Nat} (hs : s = 110 ∨ s = 116) (rs0 : q_r σ 94 32 = s) (rs1 : q_r σ 94 33 = (s + 1)) (rs2 : q_r σ 94 34 = (s + 2)) (rs3 : q_r σ 94 35 = (s + 3)) (rs4 : q_r σ 94 36 = (s + 4)) (rs5 : q_r σ 94 37 = (s + 5)) (hE : q_E σ) (h : (J ω m_M_most d 0 0 0 0 0 [(0, .long ((y1 + y0) + (8 * (zI (z σ 94 19)).toInt64)))] [] σ (q_kl (fun v τ => J ω m_M_workOfOne (d + 1) mc ms 0 0 135 [] [.long v] τ Q)))) : J ω m_M_workOfOne (d + 1) mc ms 0 0 121 [(0, .ref 94)] [.long y0, .long y1] σ Q := by
  refine j_ladd d_M_workOfOne_121 ?_
  refine j_ldc2 (v := 8) (List.mem_of_getElem? (i := 1950) (by decide +kernel)) d_M_workOfOne_122 ?_
  refine j_aload_n d_M_workOfOne_125 0 rfl ?_
  refine zj_getI (z σ 94 19) f_M_261 d_M_workOfOne_126 (tg_94 hE) (q_okE hE (by decide)) (q_z _ _ _) ?_
  refine j_i2l d_M_workOfOne_129 ?_
  refine j_lmul d_M_workOfOne_130 ?_
  refine j_ladd d_M_workOfOne_131 ?_
  refine j_callS m_M_most [.long ((y1 + y0) + (8 * (zI (z σ 94 19)).toInt64))] [] d 0 0 cS_M_312 d_M_workOfOne_132 rfl rfl (Nat.le_of_ble_eq_true rfl) (Nat.le_refl _) (Nat.le_of_ble_eq_true rfl) (Nat.zero_le _) (Nat.zero_le _) h (fun v τ h => ?_) (fun x τ h => ?_)
  · obtain ⟨v, e1, h⟩ := h; cases e1; exact j_sel [] rfl h
  · obtain ⟨v, e1, h⟩ := h; cases e1
set_option maxHeartbeats 2000000 in
theorem b_M_workOfOne_185 {ω : q_W} {σ : q_H} {Q : q_R → q_H → Prop} {d mc ms : Nat} {y0 : Int64} {y1 : Int64} {s : Nat} (hs : s = 110 ∨ s = 116) (rs0 : q_r σ 94 32 = s) (rs1 : q_r σ 94 33 = (s + 1)) (rs2 : q_r σ 94 34 = (s + 2)) (rs3 : q_r σ 94 35 = (s + 3)) (rs4 : q_r σ 94 36 = (s + 4)) (rs5 : q_r σ 94 37 = (s + 5)) (hE : q_E σ) (h : (J ω m_M_most d 0 0 0 0 0 [(0, .long (y1 + y0))] [] σ (q_kl (fun v τ => J ω m_M_workOfOne (d + 1) mc ms 0 0 189 [] [.long v] τ Q)))) : J ω m_M_workOfOne (d + 1) mc ms 0 0 185 [] [.long y0, .long y1] σ Q := by
  refine j_ladd d_M_workOfOne_185 ?_
  refine j_callS m_M_most [.long (y1 + y0)] [] d 0 0 cS_M_312 d_M_workOfOne_186 rfl rfl (Nat.le_of_ble_eq_true rfl) (Nat.le_refl _) (Nat.le_of_ble_eq_true rfl) (Nat.zero_le _) (Nat.zero_le _) h (fun v τ h => ?_) (fun x τ h => ?_)
  · obtain ⟨v, e1, h⟩ := h; cases e1; exact j_sel [] rfl h
  · obtain ⟨v, e1, h⟩ := h; cases e1
set_option maxHeartbeats 2000000 in
theorem b_M_workOfOne_135 {ω : q_W} {σ : q_H} {Q : q_R → q_H → Prop} {d mc ms : Nat} {y0 : Int64} {s : Nat} (hs : s = 110 ∨ s = 116) (rs0 : q_r σ 94 32 = s) (rs1 : q_r σ 94 33 = (s + 1)) (rs2 : q_r σ 94 34 = (s + 2)) (rs3 : q_r σ 94 35 = (s + 3)) (rs4 : q_r σ 94 36 = (s + 4)) (rs5 : q_r σ 94 37 = (s + 5)) (hE : q_E σ) (h : (Q (.inl (some (.long y0))) σ)) : J ω m_M_workOfOne (d + 1) mc ms 0 0 135 [] [.long y0] σ Q := by
  exact j_lret d_M_workOfOne_135 rfl (Nat.zero_le _) (Nat.zero_le _) h
set_option maxHeartbeats 2000000 in
theorem b_M_workOfOne_189 {ω : q_W} {σ : q_H} {Q : q_R → q_H → Prop} {d mc ms : Nat} {y0 : Int64} {s : Nat} (hs : s = 110 ∨ s = 116) (rs0 : q_r σ 94 32 = s) (rs1 : q_r σ 94 33 = (s + 1)) (rs2 : q_r σ 94 34 = (s + 2)) (rs3 : q_r σ 94 35 = (s + 3)) (rs4 : q_r σ 94 36 = (s + 4)) (rs5 : q_r σ 94 37 = (s + 5)) (hE : q_E σ) (h : (Q (.inl (some (.long y0))) σ)) : J ω m_M_workOfOne (d + 1) mc ms 0 0 189 [] [.long y0] σ Q := by
  exact j_lret d_M_workOfOne_189 rfl (Nat.zero_le _) (Nat.zero_le _) h
set_option maxHeartbeats 2000000 in
theorem b_M_workOf_0 {ω : q_W} {σ : q_H} {Q : q_R → q_H → Prop} {d mc ms : Nat} {x1 : Int} {s : Nat} (hs : s = 110 ∨ s = 116) (rs0 : q_r σ 94 32 = s) (rs1 : q_r σ 94 33 = (s + 1)) (rs2 : q_r σ 94 34 = (s + 2)) (rs3 : q_r σ 94 35 = (s + 3)) (rs4 : q_r σ 94 36 = (s + 4)) (rs5 : q_r σ 94 37 = (s + 5)) (hE : q_E σ) (h : (J ω m_M_workOf (d + 1) mc ms 0 0 5 [(0, .ref 94), (2, .long 0), (4, .int (zI x1))] [] σ Q)) : J ω m_M_workOf (d + 1) mc ms 0 0 0 [(0, .ref 94), (1, .int (zI x1))] [] σ Q := by
  refine j_lconst (v := 0) d_M_workOf_0 (by decide) ?_
  refine j_lstore_n (L' := [(2, .long 0), (0, .ref 94), (1, .int (zI x1))]) d_M_workOf_1 (by decide) rfl ?_
  refine j_iload_n d_M_workOf_2 2 rfl ?_
  refine j_istore (L' := [(4, .int (zI x1)), (2, .long 0), (0, .ref 94), (1, .int (zI x1))]) d_M_workOf_3 (by decide) rfl ?_
  exact j_sel [2, 1, 0] rfl h
set_option maxHeartbeats 2000000 in
theorem b_M_workOf_5 {ω : q_W} {σ : q_H} {Q : q_R → q_H → Prop} {d mc ms : Nat} {x2 : Int64} {x4 : Int} {s : Nat} (hs : s = 110 ∨ s = 116) (rs0 : q_r σ 94 32 = s) (rs1 : q_r σ 94 33 = (s + 1)) (rs2 : q_r σ 94 34 = (s + 2)) (rs3 : q_r σ 94 35 = (s + 3)) (rs4 : q_r σ 94 36 = (s + 4)) (rs5 : q_r σ 94 37 = (s + 5)) (hE : q_E σ) (h : (J ω m_M_isTwo d 0 0 0 0 0 [(0, .ref 94), (1, .int (zI x4))] [] σ (q_ki (fun v τ => J ω m_M_workOf (d + 1) mc ms 0 0 11 [(0, .ref 94), (2, .long x2), (4, .int (zI x4))] [.int (zI v)] τ Q)))) : J ω m_M_workOf (d + 1) mc ms 0 0 5 [(0, .ref 94), (2, .long x2), (4, .int (zI x4))] [] σ Q := by
  refine j_aload_n d_M_workOf_5 0 rfl ?_
  refine j_iload d_M_workOf_6 2 rfl ?_
  refine j_callV m_M_isTwo [.int (zI x4)] [] d 0 0 cV_M_305 d_M_workOf_8 rfl rfl (tg_94 hE) (q_okE hE (by decide)) (Nat.le_of_ble_eq_true rfl) (Nat.le_refl _) (Nat.le_of_ble_eq_true rfl) (Nat.zero_le _) (Nat.zero_le _) h (fun v τ h => ?_) (fun x τ h => ?_)
  · obtain ⟨v, hv, e1, h⟩ := h; cases e1; exact j_sel [0, 1, 2] rfl h
  · obtain ⟨v, hv, e1, h⟩ := h; cases e1
set_option maxHeartbeats 2000000 in
theorem b_M_workOf_11 {ω : q_W} {σ : q_H} {Q : q_R → q_H → Prop} {d mc ms : Nat} {x2 : Int64} {x4 : Int} {y0 : Int} {s : Nat} (hs : s = 110 ∨ s = 116) (rs0 : q_r σ 94 32 = s) (rs1 : q_r σ 94 33 = (s + 1)) (rs2 : q_r σ 94 34 = (s + 2)) (rs3 : q_r σ 94 35 = (s + 3)) (rs4 : q_r σ 94 36 = (s + 4)) (rs5 : q_r σ 94 37 = (s + 5)) (hE : q_E σ) (h : inR y0 ∧ q_imp (y0 = 0) ((J ω m_M_workOfOther d 0 0 0 0 0 [(0, .ref 94), (1, .int (zI x4))] [] σ (q_kl (fun v τ => J ω m_M_workOf (d + 1) mc ms 0 0 160 [] [.long v, .long x2] τ Q)))) ∧ q_imp (y0 ≠ 0) ((0 ≤ x4 ∧ x4 < 9000) ∧ (0 ≤ (z σ (s + 1) x4.toNat) ∧ (z σ (s + 1) x4.toNat) < 9000) ∧ (0 ≤ (z σ (s + 2) x4.toNat) ∧ (z σ (s + 2) x4.toNat) < 9000) ∧ inR (max (z σ (s + 5) (z σ (s + 1) x4.toNat).toNat) (z σ (s + 5) (z σ (s + 2) x4.toNat).toNat)) ∧ q_imp ((z σ s x4.toNat) = 42) ((J ω m_M_workOf (d + 1) mc ms 0 0 119 [(0, .ref 94), (2, .long x2), (4, .int (zI x4))] [.long (zI ((max (z σ (s + 5) x4.toNat) (max (z σ (s + 5) (z σ (s + 1) x4.toNat).toNat) (z σ (s + 5) (z σ (s + 2) x4.toNat).toNat))) * (max (z σ (s + 5) x4.toNat) (max (z σ (s + 5) (z σ (s + 1) x4.toNat).toNat) (z σ (s + 5) (z σ (s + 2) x4.toNat).toNat))))).toInt64] σ Q)) ∧ q_imp ((z σ s x4.toNat) ≠ 42) (q_imp ((z σ s x4.toNat) = 47) ((J ω m_M_workOf (d + 1) mc ms 0 0 119 [(0, .ref 94), (2, .long x2), (4, .int (zI x4))] [.long (zI ((max (z σ (s + 5) x4.toNat) (max (z σ (s + 5) (z σ (s + 1) x4.toNat).toNat) (z σ (s + 5) (z σ (s + 2) x4.toNat).toNat))) * (max (z σ (s + 5) x4.toNat) (max (z σ (s + 5) (z σ (s + 1) x4.toNat).toNat) (z σ (s + 5) (z σ (s + 2) x4.toNat).toNat))))).toInt64] σ Q)) ∧ q_imp ((z σ s x4.toNat) ≠ 47) (q_imp ((z σ s x4.toNat) ≠ 37) (q_imp ((z σ s x4.toNat) = 269) ((J ω m_M_workOf (d + 1) mc ms 0 0 119 [(0, .ref 94), (2, .long x2), (4, .int (zI x4))] [.long (zI (4 * (max (z σ (s + 5) x4.toNat) (max (z σ (s + 5) (z σ (s + 1) x4.toNat).toNat) (z σ (s + 5) (z σ (s + 2) x4.toNat).toNat))))).toInt64] σ Q)) ∧ q_imp ((z σ s x4.toNat) ≠ 269) (q_imp ((z σ s x4.toNat) ≠ 270) ((J ω m_M_workOf (d + 1) mc ms 0 0 119 [(0, .ref 94), (2, .long x2), (4, .int (zI x4))] [.long (zI (max (z σ (s + 5) x4.toNat) (max (z σ (s + 5) (z σ (s + 1) x4.toNat).toNat) (z σ (s + 5) (z σ (s + 2) x4.toNat).toNat)))).toInt64] σ Q)) ∧ q_imp ((z σ s x4.toNat) = 270) ((J ω m_M_workOf (d + 1) mc ms 0 0 119 [(0, .ref 94), (2, .long x2), (4, .int (zI x4))] [.long (zI (4 * (max (z σ (s + 5) x4.toNat) (max (z σ (s + 5) (z σ (s + 1) x4.toNat).toNat) (z σ (s + 5) (z σ (s + 2) x4.toNat).toNat))))).toInt64] σ Q)))) ∧ q_imp ((z σ s x4.toNat) = 37) ((J ω m_M_workOf (d + 1) mc ms 0 0 119 [(0, .ref 94), (2, .long x2), (4, .int (zI x4))] [.long (zI ((max (z σ (s + 5) x4.toNat) (max (z σ (s + 5) (z σ (s + 1) x4.toNat).toNat) (z σ (s + 5) (z σ (s + 2) x4.toNat).toNat))) * (max (z σ (s + 5) x4.toNat) (max (z σ (s + 5) (z σ (s + 1) x4.toNat).toNat) (z σ (s + 5) (z σ (s + 2) x4.toNat).toNat))))).toInt64] σ Q)))))) : J ω m_M_workOf (d + 1) mc ms 0 0 11 [(0, .ref 94), (2, .long x2), (4, .int (zI x4))] [.int (zI y0)] σ Q := by
  obtain ⟨r1, h⟩ := h
  obtain ⟨h1, h2⟩ := h
  refine zj_if_eq 153 d_M_workOf_11 (by decide) r1 (fun k2 => ?_) (fun k2 => ?_)
  · have h := h1 k2
    refine j_lload_n d_M_workOf_153 1 rfl ?_
    refine j_aload_n d_M_workOf_154 0 rfl ?_
    refine j_iload d_M_workOf_155 2 rfl ?_
    refine j_callV m_M_workOfOther [.int (zI x4)] [.long x2] d 0 0 cV_M_316 d_M_workOf_157 rfl rfl (tg_94 hE) (q_okE hE (by decide)) (Nat.le_of_ble_eq_true rfl) (Nat.le_refl _) (Nat.le_of_ble_eq_true rfl) (Nat.zero_le _) (Nat.zero_le _) h (fun v τ h => ?_) (fun x τ h => ?_)
    · obtain ⟨v, e1, h⟩ := h; cases e1; exact j_sel [] rfl h
    · obtain ⟨v, e1, h⟩ := h; cases e1
  · have h := h2 k2
    refine j_aload_n d_M_workOf_14 0 rfl ?_
    refine j_getR s f_M_61 d_M_workOf_15 (tg_94 hE) (q_okE hE (by decide)) (rs0) (by omega) ?_
    refine j_iload d_M_workOf_18 2 rfl ?_
    obtain ⟨c3, h⟩ := h
    refine zj_iald (z σ s x4.toNat) d_M_workOf_20 (tY_s_0 hE hs) (q_okE hE (by omega)) c3 (by decide) (q_z _ _ _) ?_
    refine j_istore (L' := [(5, .int (zI (z σ s x4.toNat))), (0, .ref 94), (2, .long x2), (4, .int (zI x4))]) d_M_workOf_21 (by decide) rfl ?_
    refine j_aload_n d_M_workOf_23 1 rfl ?_
    refine j_getR (s + 5) f_M_76 d_M_workOf_24 (tg_94 hE) (q_okE hE (by decide)) (rs5) (by omega) ?_
    refine j_iload d_M_workOf_27 3 rfl ?_
    refine zj_iald (z σ (s + 5) x4.toNat) d_M_workOf_29 (tY_s_5 hE hs) (q_okE hE (by omega)) c3 (by decide) (q_z _ _ _) ?_
    refine j_aload_n d_M_workOf_30 1 rfl ?_
    refine j_getR (s + 5) f_M_76 d_M_workOf_31 (tg_94 hE) (q_okE hE (by decide)) (rs5) (by omega) ?_
    refine j_aload_n d_M_workOf_34 1 rfl ?_
    refine j_getR (s + 1) f_M_64 d_M_workOf_35 (tg_94 hE) (q_okE hE (by decide)) (rs1) (by omega) ?_
    refine j_iload d_M_workOf_38 3 rfl ?_
    refine zj_iald (z σ (s + 1) x4.toNat) d_M_workOf_40 (tY_s_1 hE hs) (q_okE hE (by omega)) c3 (by decide) (q_z _ _ _) ?_
    obtain ⟨c4, h⟩ := h
    refine zj_iald (z σ (s + 5) (z σ (s + 1) x4.toNat).toNat) d_M_workOf_41 (tY_s_5 hE hs) (q_okE hE (by omega)) c4 (by decide) (q_z _ _ _) ?_
    refine j_aload_n d_M_workOf_42 1 rfl ?_
    refine j_getR (s + 5) f_M_76 d_M_workOf_43 (tg_94 hE) (q_okE hE (by decide)) (rs5) (by omega) ?_
    refine j_aload_n d_M_workOf_46 1 rfl ?_
    refine j_getR (s + 2) f_M_67 d_M_workOf_47 (tg_94 hE) (q_okE hE (by decide)) (rs2) (by omega) ?_
    refine j_iload d_M_workOf_50 3 rfl ?_
    refine zj_iald (z σ (s + 2) x4.toNat) d_M_workOf_52 (tY_s_2 hE hs) (q_okE hE (by omega)) c3 (by decide) (q_z _ _ _) ?_
    obtain ⟨c5, h⟩ := h
    refine zj_iald (z σ (s + 5) (z σ (s + 2) x4.toNat).toNat) d_M_workOf_53 (tY_s_5 hE hs) (q_okE hE (by omega)) c5 (by decide) (q_z _ _ _) ?_
    refine zj_max (List.mem_of_getElem? (i := 1915) (by decide +kernel)) d_M_workOf_54 (Nat.succ_le_succ (Nat.zero_le _)) (Nat.le_of_ble_eq_true rfl) (Nat.zero_le _) (Nat.zero_le _) (z_R _ _ _) (z_R _ _ _) ?_
    obtain ⟨r6, h⟩ := h
    refine zj_max (List.mem_of_getElem? (i := 1915) (by decide +kernel)) d_M_workOf_57 (Nat.succ_le_succ (Nat.zero_le _)) (Nat.le_of_ble_eq_true rfl) (Nat.zero_le _) (Nat.zero_le _) (z_R _ _ _) r6 ?_
    refine j_istore (L' := [(6, .int (zI (max (z σ (s + 5) x4.toNat) (max (z σ (s + 5) (z σ (s + 1) x4.toNat).toNat) (z σ (s + 5) (z σ (s + 2) x4.toNat).toNat))))), (5, .int (zI (z σ s x4.toNat))), (0, .ref 94), (2, .long x2), (4, .int (zI x4))]) d_M_workOf_60 (by decide) rfl ?_
    refine j_iload d_M_workOf_62 1 rfl ?_
    refine j_bipush (v := zI 42) d_M_workOf_64 (by decide) ?_
    obtain ⟨h1, h2⟩ := h
    refine zj_icmp_eq 83 d_M_workOf_66 (by decide) (z_R _ _ _) ⟨by decide, by decide⟩ (fun k7 => ?_) (fun k7 => ?_)
    · have h := h1 k7
      refine j_iload d_M_workOf_83 0 rfl ?_
      refine j_iload d_M_workOf_85 0 rfl ?_
      refine zj_imul ((max (z σ (s + 5) x4.toNat) (max (z σ (s + 5) (z σ (s + 1) x4.toNat).toNat) (z σ (s + 5) (z σ (s + 2) x4.toNat).toNat))) * (max (z σ (s + 5) x4.toNat) (max (z σ (s + 5) (z σ (s + 1) x4.toNat).toNat) (z σ (s + 5) (z σ (s + 2) x4.toNat).toNat)))) rfl d_M_workOf_87 ?_
      refine j_i2l d_M_workOf_88 ?_
      refine j_goto 119 d_M_workOf_89 (by decide) ?_
      exact j_sel [2, 3, 4] rfl h
    · have h := h2 k7
      refine j_iload d_M_workOf_69 1 rfl ?_
      refine j_bipush (v := zI 47) d_M_workOf_71 (by decide) ?_
      obtain ⟨h1, h2⟩ := h
      refine zj_icmp_eq 83 d_M_workOf_73 (by decide) (z_R _ _ _) ⟨by decide, by decide⟩ (fun k8 => ?_) (fun k8 => ?_)
      · have h := h1 k8
        refine j_iload d_M_workOf_83 0 rfl ?_
        refine j_iload d_M_workOf_85 0 rfl ?_
        refine zj_imul ((max (z σ (s + 5) x4.toNat) (max (z σ (s + 5) (z σ (s + 1) x4.toNat).toNat) (z σ (s + 5) (z σ (s + 2) x4.toNat).toNat))) * (max (z σ (s + 5) x4.toNat) (max (z σ (s + 5) (z σ (s + 1) x4.toNat).toNat) (z σ (s + 5) (z σ (s + 2) x4.toNat).toNat)))) rfl d_M_workOf_87 ?_
        refine j_i2l d_M_workOf_88 ?_
        refine j_goto 119 d_M_workOf_89 (by decide) ?_
        exact j_sel [2, 3, 4] rfl h
      · have h := h2 k8
        refine j_iload d_M_workOf_76 1 rfl ?_
        refine j_bipush (v := zI 37) d_M_workOf_78 (by decide) ?_
        obtain ⟨h1, h2⟩ := h
        refine zj_icmp_ne 92 d_M_workOf_80 (by decide) (z_R _ _ _) ⟨by decide, by decide⟩ (fun k9 => ?_) (fun k9 => ?_)
        · have h := h1 k9
          refine j_iload d_M_workOf_92 1 rfl ?_
          refine j_sipush (v := zI 269) d_M_workOf_94 (by decide) ?_
          obtain ⟨h1, h2⟩ := h
          refine zj_icmp_eq 108 d_M_workOf_97 (by decide) (z_R _ _ _) ⟨by decide, by decide⟩ (fun k10 => ?_) (fun k10 => ?_)
          · have h := h1 k10
            refine j_iconst (v := zI 4) d_M_workOf_108 (by decide) ?_
            refine j_iload d_M_workOf_109 0 rfl ?_
            refine zj_imul (4 * (max (z σ (s + 5) x4.toNat) (max (z σ (s + 5) (z σ (s + 1) x4.toNat).toNat) (z σ (s + 5) (z σ (s + 2) x4.toNat).toNat)))) rfl d_M_workOf_111 ?_
            refine j_i2l d_M_workOf_112 ?_
            refine j_goto 119 d_M_workOf_113 (by decide) ?_
            exact j_sel [2, 3, 4] rfl h
          · have h := h2 k10
            refine j_iload d_M_workOf_100 1 rfl ?_
            refine j_sipush (v := zI 270) d_M_workOf_102 (by decide) ?_
            obtain ⟨h1, h2⟩ := h
            refine zj_icmp_ne 116 d_M_workOf_105 (by decide) (z_R _ _ _) ⟨by decide, by decide⟩ (fun k11 => ?_) (fun k11 => ?_)
            · have h := h1 k11
              refine j_iload d_M_workOf_116 0 rfl ?_
              refine j_i2l d_M_workOf_118 ?_
              exact j_sel [2, 3, 4] rfl h
            · have h := h2 k11
              refine j_iconst (v := zI 4) d_M_workOf_108 (by decide) ?_
              refine j_iload d_M_workOf_109 0 rfl ?_
              refine zj_imul (4 * (max (z σ (s + 5) x4.toNat) (max (z σ (s + 5) (z σ (s + 1) x4.toNat).toNat) (z σ (s + 5) (z σ (s + 2) x4.toNat).toNat)))) rfl d_M_workOf_111 ?_
              refine j_i2l d_M_workOf_112 ?_
              refine j_goto 119 d_M_workOf_113 (by decide) ?_
              exact j_sel [2, 3, 4] rfl h
        · have h := h2 k9
          refine j_iload d_M_workOf_83 0 rfl ?_
          refine j_iload d_M_workOf_85 0 rfl ?_
          refine zj_imul ((max (z σ (s + 5) x4.toNat) (max (z σ (s + 5) (z σ (s + 1) x4.toNat).toNat) (z σ (s + 5) (z σ (s + 2) x4.toNat).toNat))) * (max (z σ (s + 5) x4.toNat) (max (z σ (s + 5) (z σ (s + 1) x4.toNat).toNat) (z σ (s + 5) (z σ (s + 2) x4.toNat).toNat)))) rfl d_M_workOf_87 ?_
          refine j_i2l d_M_workOf_88 ?_
          refine j_goto 119 d_M_workOf_89 (by decide) ?_
          exact j_sel [2, 3, 4] rfl h
set_option maxHeartbeats 2000000 in
theorem b_M_workOf_160 {ω : q_W} {σ : q_H} {Q : q_R → q_H → Prop} {d mc ms : Nat} {y0 : Int64} {y1 : Int64} {s : Nat} (hs : s = 110 ∨ s = 116) (rs0 : q_r σ 94 32 = s) (rs1 : q_r σ 94 33 = (s + 1)) (rs2 : q_r σ 94 34 = (s + 2)) (rs3 : q_r σ 94 35 = (s + 3)) (rs4 : q_r σ 94 36 = (s + 4)) (rs5 : q_r σ 94 37 = (s + 5)) (hE : q_E σ) (h : (J ω m_M_most d 0 0 0 0 0 [(0, .long (y1 + y0))] [] σ (q_kl (fun v τ => J ω m_M_workOf (d + 1) mc ms 0 0 164 [] [.long v] τ Q)))) : J ω m_M_workOf (d + 1) mc ms 0 0 160 [] [.long y0, .long y1] σ Q := by
  refine j_ladd d_M_workOf_160 ?_
  refine j_callS m_M_most [.long (y1 + y0)] [] d 0 0 cS_M_312 d_M_workOf_161 rfl rfl (Nat.le_of_ble_eq_true rfl) (Nat.le_refl _) (Nat.le_of_ble_eq_true rfl) (Nat.zero_le _) (Nat.zero_le _) h (fun v τ h => ?_) (fun x τ h => ?_)
  · obtain ⟨v, e1, h⟩ := h; cases e1; exact j_sel [] rfl h
  · obtain ⟨v, e1, h⟩ := h; cases e1
set_option maxHeartbeats 2000000 in
theorem b_M_workOf_119 {ω : q_W} {σ : q_H} {Q : q_R → q_H → Prop} {d mc ms : Nat} {x2 : Int64} {x4 : Int} {y0 : Int64} {s : Nat} (hs : s = 110 ∨ s = 116) (rs0 : q_r σ 94 32 = s) (rs1 : q_r σ 94 33 = (s + 1)) (rs2 : q_r σ 94 34 = (s + 2)) (rs3 : q_r σ 94 35 = (s + 3)) (rs4 : q_r σ 94 36 = (s + 4)) (rs5 : q_r σ 94 37 = (s + 5)) (hE : q_E σ) (h : (0 ≤ x4 ∧ x4 < 9000) ∧ (J ω m_M_workOf d 0 0 0 0 0 [(0, .ref 94), (1, .int (zI (z σ (s + 2) x4.toNat)))] [] σ (q_kl (fun v τ => J ω m_M_workOf (d + 1) mc ms 0 0 136 [(0, .ref 94), (4, .int (zI x4))] [.long v, .long (x2 + y0)] τ Q)))) : J ω m_M_workOf (d + 1) mc ms 0 0 119 [(0, .ref 94), (2, .long x2), (4, .int (zI x4))] [.long y0] σ Q := by
  refine j_lstore (L' := [(7, .long y0), (0, .ref 94), (2, .long x2), (4, .int (zI x4))]) d_M_workOf_119 (by decide) rfl ?_
  refine j_lload_n d_M_workOf_121 2 rfl ?_
  refine j_lload d_M_workOf_122 0 rfl ?_
  refine j_ladd d_M_workOf_124 ?_
  refine j_aload_n d_M_workOf_125 1 rfl ?_
  refine j_aload_n d_M_workOf_126 1 rfl ?_
  refine j_getR (s + 2) f_M_67 d_M_workOf_127 (tg_94 hE) (q_okE hE (by decide)) (rs2) (by omega) ?_
  refine j_iload d_M_workOf_130 3 rfl ?_
  obtain ⟨c12, h⟩ := h
  refine zj_iald (z σ (s + 2) x4.toNat) d_M_workOf_132 (tY_s_2 hE hs) (q_okE hE (by omega)) c12 (by decide) (q_z _ _ _) ?_
  refine j_callV m_M_workOf [.int (zI (z σ (s + 2) x4.toNat))] [.long (x2 + y0)] d 0 0 cV_M_308 d_M_workOf_133 rfl rfl (tg_94 hE) (q_okE hE (by decide)) (Nat.le_of_ble_eq_true rfl) (Nat.le_refl _) (Nat.le_of_ble_eq_true rfl) (Nat.zero_le _) (Nat.zero_le _) h (fun v τ h => ?_) (fun x τ h => ?_)
  · obtain ⟨v, e1, h⟩ := h; cases e1; exact j_sel [1, 3] rfl h
  · obtain ⟨v, e1, h⟩ := h; cases e1
set_option maxHeartbeats 2000000 in
theorem b_M_workOf_164 {ω : q_W} {σ : q_H} {Q : q_R → q_H → Prop} {d mc ms : Nat} {y0 : Int64} {s : Nat} (hs : s = 110 ∨ s = 116) (rs0 : q_r σ 94 32 = s) (rs1 : q_r σ 94 33 = (s + 1)) (rs2 : q_r σ 94 34 = (s + 2)) (rs3 : q_r σ 94 35 = (s + 3)) (rs4 : q_r σ 94 36 = (s + 4)) (rs5 : q_r σ 94 37 = (s + 5)) (hE : q_E σ) (h : (Q (.inl (some (.long y0))) σ)) : J ω m_M_workOf (d + 1) mc ms 0 0 164 [] [.long y0] σ Q := by
  exact j_lret d_M_workOf_164 rfl (Nat.zero_le _) (Nat.zero_le _) h
set_option maxHeartbeats 2000000 in
theorem b_M_workOf_136 {ω : q_W} {σ : q_H} {Q : q_R → q_H → Prop} {d mc ms : Nat} {x4 : Int} {y0 : Int64} {y1 : Int64} {s : Nat} (hs : s = 110 ∨ s = 116) (rs0 : q_r σ 94 32 = s) (rs1 : q_r σ 94 33 = (s + 1)) (rs2 : q_r σ 94 34 = (s + 2)) (rs3 : q_r σ 94 35 = (s + 3)) (rs4 : q_r σ 94 36 = (s + 4)) (rs5 : q_r σ 94 37 = (s + 5)) (hE : q_E σ) (h : (J ω m_M_most d 0 0 0 0 0 [(0, .long (y1 + y0))] [] σ (q_kl (fun v τ => J ω m_M_workOf (d + 1) mc ms 0 0 140 [(0, .ref 94), (4, .int (zI x4))] [.long v] τ Q)))) : J ω m_M_workOf (d + 1) mc ms 0 0 136 [(0, .ref 94), (4, .int (zI x4))] [.long y0, .long y1] σ Q := by
  refine j_ladd d_M_workOf_136 ?_
  refine j_callS m_M_most [.long (y1 + y0)] [] d 0 0 cS_M_312 d_M_workOf_137 rfl rfl (Nat.le_of_ble_eq_true rfl) (Nat.le_refl _) (Nat.le_of_ble_eq_true rfl) (Nat.zero_le _) (Nat.zero_le _) h (fun v τ h => ?_) (fun x τ h => ?_)
  · obtain ⟨v, e1, h⟩ := h; cases e1; exact j_sel [0, 1] rfl h
  · obtain ⟨v, e1, h⟩ := h; cases e1
set_option maxHeartbeats 2000000 in
theorem b_M_workOf_140 {ω : q_W} {σ : q_H} {Q : q_R → q_H → Prop} {d mc ms : Nat} {x4 : Int} {y0 : Int64} {s : Nat} (hs : s = 110 ∨ s = 116) (rs0 : q_r σ 94 32 = s) (rs1 : q_r σ 94 33 = (s + 1)) (rs2 : q_r σ 94 34 = (s + 2)) (rs3 : q_r σ 94 35 = (s + 3)) (rs4 : q_r σ 94 36 = (s + 4)) (rs5 : q_r σ 94 37 = (s + 5)) (hE : q_E σ) (h : (0 ≤ x4 ∧ x4 < 9000) ∧ (J ω m_M_workOf (d + 1) mc ms 0 0 5 [(0, .ref 94), (2, .long y0), (4, .int (zI (z σ (s + 1) x4.toNat)))] [] σ Q)) : J ω m_M_workOf (d + 1) mc ms 0 0 140 [(0, .ref 94), (4, .int (zI x4))] [.long y0] σ Q := by
  refine j_lstore_n (L' := [(2, .long y0), (0, .ref 94), (4, .int (zI x4))]) d_M_workOf_140 (by decide) rfl ?_
  refine j_aload_n d_M_workOf_141 1 rfl ?_
  refine j_getR (s + 1) f_M_64 d_M_workOf_142 (tg_94 hE) (q_okE hE (by decide)) (rs1) (by omega) ?_
  refine j_iload d_M_workOf_145 2 rfl ?_
  obtain ⟨c13, h⟩ := h
  refine zj_iald (z σ (s + 1) x4.toNat) d_M_workOf_147 (tY_s_1 hE hs) (q_okE hE (by omega)) c13 (by decide) (q_z _ _ _) ?_
  refine j_istore (L' := [(4, .int (zI (z σ (s + 1) x4.toNat))), (2, .long y0), (0, .ref 94)]) d_M_workOf_148 (by decide) rfl ?_
  refine j_goto 5 d_M_workOf_150 (by decide) ?_
  exact j_sel [2, 1, 0] rfl h
set_option maxHeartbeats 2000000 in
theorem b_M_isTwo_0 {ω : q_W} {σ : q_H} {Q : q_R → q_H → Prop} {d mc ms : Nat} {x1 : Int} {s : Nat} (hs : s = 110 ∨ s = 116) (rs0 : q_r σ 94 32 = s) (rs1 : q_r σ 94 33 = (s + 1)) (rs2 : q_r σ 94 34 = (s + 2)) (rs3 : q_r σ 94 35 = (s + 3)) (rs4 : q_r σ 94 36 = (s + 4)) (rs5 : q_r σ 94 37 = (s + 5)) (hE : q_E σ) (h : (0 ≤ x1 ∧ x1 < 9000) ∧ (J ω m_M_levelOf d 0 0 0 0 0 [(0, .int (zI (z σ s x1.toNat)))] [] σ (q_ki (fun v τ => J ω m_M_isTwo (d + 1) mc ms 0 0 9 [] [.int (zI v)] τ Q)))) : J ω m_M_isTwo (d + 1) mc ms 0 0 0 [(0, .ref 94), (1, .int (zI x1))] [] σ Q := by
  refine j_aload_n d_M_isTwo_0 0 rfl ?_
  refine j_getR s f_M_61 d_M_isTwo_1 (tg_94 hE) (q_okE hE (by decide)) (rs0) (by omega) ?_
  refine j_iload_n d_M_isTwo_4 1 rfl ?_
  obtain ⟨c1, h⟩ := h
  refine zj_iald (z σ s x1.toNat) d_M_isTwo_5 (tY_s_0 hE hs) (q_okE hE (by omega)) c1 (by decide) (q_z _ _ _) ?_
  refine j_callS m_M_levelOf [.int (zI (z σ s x1.toNat))] [] d 0 0 cS_M_292 d_M_isTwo_6 rfl rfl (Nat.le_of_ble_eq_true rfl) (Nat.le_refl _) (Nat.le_of_ble_eq_true rfl) (Nat.zero_le _) (Nat.zero_le _) h (fun v τ h => ?_) (fun x τ h => ?_)
  · obtain ⟨v, hv, e1, h⟩ := h; cases e1; exact j_sel [] rfl h
  · obtain ⟨v, hv, e1, h⟩ := h; cases e1
set_option maxHeartbeats 2000000 in
theorem b_M_isTwo_9 {ω : q_W} {σ : q_H} {Q : q_R → q_H → Prop} {d mc ms : Nat} {y0 : Int} {s : Nat} (hs : s = 110 ∨ s = 116) (rs0 : q_r σ 94 32 = s) (rs1 : q_r σ 94 33 = (s + 1)) (rs2 : q_r σ 94 34 = (s + 2)) (rs3 : q_r σ 94 35 = (s + 3)) (rs4 : q_r σ 94 36 = (s + 4)) (rs5 : q_r σ 94 37 = (s + 5)) (hE : q_E σ) (h : inR y0 ∧ q_imp (y0 ≤ 0) ((Q (.inl (some (.int (zI 0)))) σ)) ∧ q_imp (0 < y0) ((Q (.inl (some (.int (zI 1)))) σ))) : J ω m_M_isTwo (d + 1) mc ms 0 0 9 [] [.int (zI y0)] σ Q := by
  obtain ⟨r2, h⟩ := h
  obtain ⟨h1, h2⟩ := h
  refine zj_if_le 16 d_M_isTwo_9 (by decide) r2 (fun k3 => ?_) (fun k3 => ?_)
  · have h := h1 k3
    refine j_iconst (v := zI 0) d_M_isTwo_16 (by decide) ?_
    exact zj_zret d_M_isTwo_17 rfl (by decide) (Nat.zero_le _) (Nat.zero_le _) h
  · have h := h2 k3
    refine j_iconst (v := zI 1) d_M_isTwo_12 (by decide) ?_
    refine j_goto 17 d_M_isTwo_13 (by decide) ?_
    exact zj_zret d_M_isTwo_17 rfl (by decide) (Nat.zero_le _) (Nat.zero_le _) h
set_option maxHeartbeats 2000000 in
theorem b_M_most_0 {ω : q_W} {σ : q_H} {Q : q_R → q_H → Prop} {d mc ms : Nat} {x0 : Int64}  (hE : q_E σ) (h : (Q (.inl (some (.long (if 1000000 < x0 then 1000000 else x0)))) σ)) : J ω m_M_most (d + 1) mc ms 0 0 0 [(0, .long x0)] [] σ Q := by
  refine j_lload_n d_M_most_0 0 rfl ?_
  refine j_ldc2 (v := 1000000) (List.mem_of_getElem? (i := 1942) (by decide +kernel)) d_M_most_1 ?_
  refine zj_minL (List.mem_of_getElem? (i := 1943) (by decide +kernel)) d_M_most_4 (Nat.succ_le_succ (Nat.zero_le _)) (Nat.le_of_ble_eq_true rfl) (Nat.zero_le _) (Nat.zero_le _)  ?_
  exact j_lret d_M_most_7 rfl (Nat.zero_le _) (Nat.zero_le _) h
set_option maxHeartbeats 2000000 in
theorem b_M_workOfOther_0 {ω : q_W} {σ : q_H} {Q : q_R → q_H → Prop} {d mc ms : Nat} {x1 : Int} {s : Nat} (hs : s = 110 ∨ s = 116) (rs0 : q_r σ 94 32 = s) (rs1 : q_r σ 94 33 = (s + 1)) (rs2 : q_r σ 94 34 = (s + 2)) (rs3 : q_r σ 94 35 = (s + 3)) (rs4 : q_r σ 94 36 = (s + 4)) (rs5 : q_r σ 94 37 = (s + 5)) (hE : q_E σ) (h : (0 ≤ x1 ∧ x1 < 9000) ∧ q_imp ((z σ s x1.toNat) = 264) ((Q (.inl (some (.long 0))) σ)) ∧ q_imp ((z σ s x1.toNat) ≠ 264) (q_imp ((z σ s x1.toNat) ≠ 263) ((0 ≤ (z σ (s + 1) x1.toNat) ∧ (z σ (s + 1) x1.toNat) < 9000) ∧ q_imp ((z σ s x1.toNat) = 277) ((J ω m_M_workOf d 0 0 0 0 0 [(0, .ref 94), (1, .int (zI (z σ (s + 1) x1.toNat)))] [] σ (q_kl (fun v τ => J ω m_M_workOfOther (d + 1) mc ms 0 0 78 [(0, .ref 94), (1, .int (zI x1)), (3, .int (zI (max (z σ (s + 5) x1.toNat) (z σ (s + 5) (z σ (s + 1) x1.toNat).toNat))))] [.long v] τ Q)))) ∧ q_imp ((z σ s x1.toNat) ≠ 277) ((J ω m_M_workOf d 0 0 0 0 0 [(0, .ref 94), (1, .int (zI (z σ (s + 1) x1.toNat)))] [] σ (q_kl (fun v τ => J ω m_M_workOfOther (d + 1) mc ms 0 0 61 [(3, .int (zI (max (z σ (s + 5) x1.toNat) (z σ (s + 5) (z σ (s + 1) x1.toNat).toNat))))] [.long v] τ Q))))) ∧ q_imp ((z σ s x1.toNat) = 263) ((Q (.inl (some (.long 0))) σ)))) : J ω m_M_workOfOther (d + 1) mc ms 0 0 0 [(0, .ref 94), (1, .int (zI x1))] [] σ Q := by
  refine j_aload_n d_M_workOfOther_0 0 rfl ?_
  refine j_getR s f_M_61 d_M_workOfOther_1 (tg_94 hE) (q_okE hE (by decide)) (rs0) (by omega) ?_
  refine j_iload_n d_M_workOfOther_4 1 rfl ?_
  obtain ⟨c1, h⟩ := h
  refine zj_iald (z σ s x1.toNat) d_M_workOfOther_5 (tY_s_0 hE hs) (q_okE hE (by omega)) c1 (by decide) (q_z _ _ _) ?_
  refine j_istore_n (L' := [(2, .int (zI (z σ s x1.toNat))), (0, .ref 94), (1, .int (zI x1))]) d_M_workOfOther_6 (by decide) rfl ?_
  refine j_iload_n d_M_workOfOther_7 0 rfl ?_
  refine j_sipush (v := zI 264) d_M_workOfOther_8 (by decide) ?_
  obtain ⟨h1, h2⟩ := h
  refine zj_icmp_eq 21 d_M_workOfOther_11 (by decide) (z_R _ _ _) ⟨by decide, by decide⟩ (fun k2 => ?_) (fun k2 => ?_)
  · have h := h1 k2
    refine j_lconst (v := 0) d_M_workOfOther_21 (by decide) ?_
    exact j_lret d_M_workOfOther_22 rfl (Nat.zero_le _) (Nat.zero_le _) h
  · have h := h2 k2
    refine j_iload_n d_M_workOfOther_14 0 rfl ?_
    refine j_sipush (v := zI 263) d_M_workOfOther_15 (by decide) ?_
    obtain ⟨h1, h2⟩ := h
    refine zj_icmp_ne 23 d_M_workOfOther_18 (by decide) (z_R _ _ _) ⟨by decide, by decide⟩ (fun k3 => ?_) (fun k3 => ?_)
    · have h := h1 k3
      refine j_aload_n d_M_workOfOther_23 1 rfl ?_
      refine j_getR (s + 5) f_M_76 d_M_workOfOther_24 (tg_94 hE) (q_okE hE (by decide)) (rs5) (by omega) ?_
      refine j_iload_n d_M_workOfOther_27 2 rfl ?_
      refine zj_iald (z σ (s + 5) x1.toNat) d_M_workOfOther_28 (tY_s_5 hE hs) (q_okE hE (by omega)) c1 (by decide) (q_z _ _ _) ?_
      refine j_aload_n d_M_workOfOther_29 1 rfl ?_
      refine j_getR (s + 5) f_M_76 d_M_workOfOther_30 (tg_94 hE) (q_okE hE (by decide)) (rs5) (by omega) ?_
      refine j_aload_n d_M_workOfOther_33 1 rfl ?_
      refine j_getR (s + 1) f_M_64 d_M_workOfOther_34 (tg_94 hE) (q_okE hE (by decide)) (rs1) (by omega) ?_
      refine j_iload_n d_M_workOfOther_37 2 rfl ?_
      refine zj_iald (z σ (s + 1) x1.toNat) d_M_workOfOther_38 (tY_s_1 hE hs) (q_okE hE (by omega)) c1 (by decide) (q_z _ _ _) ?_
      obtain ⟨c4, h⟩ := h
      refine zj_iald (z σ (s + 5) (z σ (s + 1) x1.toNat).toNat) d_M_workOfOther_39 (tY_s_5 hE hs) (q_okE hE (by omega)) c4 (by decide) (q_z _ _ _) ?_
      refine zj_max (List.mem_of_getElem? (i := 1915) (by decide +kernel)) d_M_workOfOther_40 (Nat.succ_le_succ (Nat.zero_le _)) (Nat.le_of_ble_eq_true rfl) (Nat.zero_le _) (Nat.zero_le _) (z_R _ _ _) (z_R _ _ _) ?_
      refine j_istore_n (L' := [(3, .int (zI (max (z σ (s + 5) x1.toNat) (z σ (s + 5) (z σ (s + 1) x1.toNat).toNat)))), (2, .int (zI (z σ s x1.toNat))), (0, .ref 94), (1, .int (zI x1))]) d_M_workOfOther_43 (by decide) rfl ?_
      refine j_iload_n d_M_workOfOther_44 1 rfl ?_
      refine j_sipush (v := zI 277) d_M_workOfOther_45 (by decide) ?_
      obtain ⟨h1, h2⟩ := h
      refine zj_icmp_eq 68 d_M_workOfOther_48 (by decide) (z_R _ _ _) ⟨by decide, by decide⟩ (fun k5 => ?_) (fun k5 => ?_)
      · have h := h1 k5
        refine j_aload_n d_M_workOfOther_68 2 rfl ?_
        refine j_aload_n d_M_workOfOther_69 2 rfl ?_
        refine j_getR (s + 1) f_M_64 d_M_workOfOther_70 (tg_94 hE) (q_okE hE (by decide)) (rs1) (by omega) ?_
        refine j_iload_n d_M_workOfOther_73 3 rfl ?_
        refine zj_iald (z σ (s + 1) x1.toNat) d_M_workOfOther_74 (tY_s_1 hE hs) (q_okE hE (by omega)) c1 (by decide) (q_z _ _ _) ?_
        refine j_callV m_M_workOf [.int (zI (z σ (s + 1) x1.toNat))] [] d 0 0 cV_M_308 d_M_workOfOther_75 rfl rfl (tg_94 hE) (q_okE hE (by decide)) (Nat.le_of_ble_eq_true rfl) (Nat.le_refl _) (Nat.le_of_ble_eq_true rfl) (Nat.zero_le _) (Nat.zero_le _) h (fun v τ h => ?_) (fun x τ h => ?_)
        · obtain ⟨v, e1, h⟩ := h; cases e1; exact j_sel [2, 3, 0] rfl h
        · obtain ⟨v, e1, h⟩ := h; cases e1
      · have h := h2 k5
        refine j_aload_n d_M_workOfOther_51 2 rfl ?_
        refine j_aload_n d_M_workOfOther_52 2 rfl ?_
        refine j_getR (s + 1) f_M_64 d_M_workOfOther_53 (tg_94 hE) (q_okE hE (by decide)) (rs1) (by omega) ?_
        refine j_iload_n d_M_workOfOther_56 3 rfl ?_
        refine zj_iald (z σ (s + 1) x1.toNat) d_M_workOfOther_57 (tY_s_1 hE hs) (q_okE hE (by omega)) c1 (by decide) (q_z _ _ _) ?_
        refine j_callV m_M_workOf [.int (zI (z σ (s + 1) x1.toNat))] [] d 0 0 cV_M_308 d_M_workOfOther_58 rfl rfl (tg_94 hE) (q_okE hE (by decide)) (Nat.le_of_ble_eq_true rfl) (Nat.le_refl _) (Nat.le_of_ble_eq_true rfl) (Nat.zero_le _) (Nat.zero_le _) h (fun v τ h => ?_) (fun x τ h => ?_)
        · obtain ⟨v, e1, h⟩ := h; cases e1; exact j_sel [0] rfl h
        · obtain ⟨v, e1, h⟩ := h; cases e1
    · have h := h2 k3
      refine j_lconst (v := 0) d_M_workOfOther_21 (by decide) ?_
      exact j_lret d_M_workOfOther_22 rfl (Nat.zero_le _) (Nat.zero_le _) h
set_option maxHeartbeats 2000000 in
theorem b_M_workOfOther_78 {ω : q_W} {σ : q_H} {Q : q_R → q_H → Prop} {d mc ms : Nat} {x1 : Int} {x3 : Int} {y0 : Int64} {s : Nat} (hs : s = 110 ∨ s = 116) (rs0 : q_r σ 94 32 = s) (rs1 : q_r σ 94 33 = (s + 1)) (rs2 : q_r σ 94 34 = (s + 2)) (rs3 : q_r σ 94 35 = (s + 3)) (rs4 : q_r σ 94 36 = (s + 4)) (rs5 : q_r σ 94 37 = (s + 5)) (hE : q_E σ) (h : (0 ≤ x1 ∧ x1 < 9000) ∧ (J ω m_M_workOf d 0 0 0 0 0 [(0, .ref 94), (1, .int (zI (z σ (s + 2) x1.toNat)))] [] σ (q_kl (fun v τ => J ω m_M_workOfOther (d + 1) mc ms 0 0 88 [(0, .ref 94), (1, .int (zI x1)), (3, .int (zI x3))] [.long v, .long y0] τ Q)))) : J ω m_M_workOfOther (d + 1) mc ms 0 0 78 [(0, .ref 94), (1, .int (zI x1)), (3, .int (zI x3))] [.long y0] σ Q := by
  refine j_aload_n d_M_workOfOther_78 0 rfl ?_
  refine j_aload_n d_M_workOfOther_79 0 rfl ?_
  refine j_getR (s + 2) f_M_67 d_M_workOfOther_80 (tg_94 hE) (q_okE hE (by decide)) (rs2) (by omega) ?_
  refine j_iload_n d_M_workOfOther_83 1 rfl ?_
  obtain ⟨c6, h⟩ := h
  refine zj_iald (z σ (s + 2) x1.toNat) d_M_workOfOther_84 (tY_s_2 hE hs) (q_okE hE (by omega)) c6 (by decide) (q_z _ _ _) ?_
  refine j_callV m_M_workOf [.int (zI (z σ (s + 2) x1.toNat))] [.long y0] d 0 0 cV_M_308 d_M_workOfOther_85 rfl rfl (tg_94 hE) (q_okE hE (by decide)) (Nat.le_of_ble_eq_true rfl) (Nat.le_refl _) (Nat.le_of_ble_eq_true rfl) (Nat.zero_le _) (Nat.zero_le _) h (fun v τ h => ?_) (fun x τ h => ?_)
  · obtain ⟨v, e1, h⟩ := h; cases e1; exact j_sel [0, 1, 2] rfl h
  · obtain ⟨v, e1, h⟩ := h; cases e1
set_option maxHeartbeats 2000000 in
theorem b_M_workOfOther_61 {ω : q_W} {σ : q_H} {Q : q_R → q_H → Prop} {d mc ms : Nat} {x3 : Int} {y0 : Int64} {s : Nat} (hs : s = 110 ∨ s = 116) (rs0 : q_r σ 94 32 = s) (rs1 : q_r σ 94 33 = (s + 1)) (rs2 : q_r σ 94 34 = (s + 2)) (rs3 : q_r σ 94 35 = (s + 3)) (rs4 : q_r σ 94 36 = (s + 4)) (rs5 : q_r σ 94 37 = (s + 5)) (hE : q_E σ) (h : (J ω m_M_most d 0 0 0 0 0 [(0, .long (y0 + (zI x3).toInt64))] [] σ (q_kl (fun v τ => J ω m_M_workOfOther (d + 1) mc ms 0 0 67 [] [.long v] τ Q)))) : J ω m_M_workOfOther (d + 1) mc ms 0 0 61 [(3, .int (zI x3))] [.long y0] σ Q := by
  refine j_iload_n d_M_workOfOther_61 0 rfl ?_
  refine j_i2l d_M_workOfOther_62 ?_
  refine j_ladd d_M_workOfOther_63 ?_
  refine j_callS m_M_most [.long (y0 + (zI x3).toInt64)] [] d 0 0 cS_M_312 d_M_workOfOther_64 rfl rfl (Nat.le_of_ble_eq_true rfl) (Nat.le_refl _) (Nat.le_of_ble_eq_true rfl) (Nat.zero_le _) (Nat.zero_le _) h (fun v τ h => ?_) (fun x τ h => ?_)
  · obtain ⟨v, e1, h⟩ := h; cases e1; exact j_sel [] rfl h
  · obtain ⟨v, e1, h⟩ := h; cases e1
set_option maxHeartbeats 2000000 in
theorem b_M_workOfOther_88 {ω : q_W} {σ : q_H} {Q : q_R → q_H → Prop} {d mc ms : Nat} {x1 : Int} {x3 : Int} {y0 : Int64} {y1 : Int64} {s : Nat} (hs : s = 110 ∨ s = 116) (rs0 : q_r σ 94 32 = s) (rs1 : q_r σ 94 33 = (s + 1)) (rs2 : q_r σ 94 34 = (s + 2)) (rs3 : q_r σ 94 35 = (s + 3)) (rs4 : q_r σ 94 36 = (s + 4)) (rs5 : q_r σ 94 37 = (s + 5)) (hE : q_E σ) (h : (0 ≤ x1 ∧ x1 < 9000) ∧ (J ω m_M_workOf d 0 0 0 0 0 [(0, .ref 94), (1, .int (zI (z σ (s + 3) x1.toNat)))] [] σ (q_kl (fun v τ => J ω m_M_workOfOther (d + 1) mc ms 0 0 99 [(0, .ref 94), (1, .int (zI x1)), (3, .int (zI x3))] [.long v, .long (y1 + y0)] τ Q)))) : J ω m_M_workOfOther (d + 1) mc ms 0 0 88 [(0, .ref 94), (1, .int (zI x1)), (3, .int (zI x3))] [.long y0, .long y1] σ Q := by
  refine j_ladd d_M_workOfOther_88 ?_
  refine j_aload_n d_M_workOfOther_89 0 rfl ?_
  refine j_aload_n d_M_workOfOther_90 0 rfl ?_
  refine j_getR (s + 3) f_M_70 d_M_workOfOther_91 (tg_94 hE) (q_okE hE (by decide)) (rs3) (by omega) ?_
  refine j_iload_n d_M_workOfOther_94 1 rfl ?_
  obtain ⟨c7, h⟩ := h
  refine zj_iald (z σ (s + 3) x1.toNat) d_M_workOfOther_95 (tY_s_3 hE hs) (q_okE hE (by omega)) c7 (by decide) (q_z _ _ _) ?_
  refine j_callV m_M_workOf [.int (zI (z σ (s + 3) x1.toNat))] [.long (y1 + y0)] d 0 0 cV_M_308 d_M_workOfOther_96 rfl rfl (tg_94 hE) (q_okE hE (by decide)) (Nat.le_of_ble_eq_true rfl) (Nat.le_refl _) (Nat.le_of_ble_eq_true rfl) (Nat.zero_le _) (Nat.zero_le _) h (fun v τ h => ?_) (fun x τ h => ?_)
  · obtain ⟨v, e1, h⟩ := h; cases e1; exact j_sel [0, 1, 2] rfl h
  · obtain ⟨v, e1, h⟩ := h; cases e1
set_option maxHeartbeats 2000000 in
theorem b_M_workOfOther_67 {ω : q_W} {σ : q_H} {Q : q_R → q_H → Prop} {d mc ms : Nat} {y0 : Int64} {s : Nat} (hs : s = 110 ∨ s = 116) (rs0 : q_r σ 94 32 = s) (rs1 : q_r σ 94 33 = (s + 1)) (rs2 : q_r σ 94 34 = (s + 2)) (rs3 : q_r σ 94 35 = (s + 3)) (rs4 : q_r σ 94 36 = (s + 4)) (rs5 : q_r σ 94 37 = (s + 5)) (hE : q_E σ) (h : (Q (.inl (some (.long y0))) σ)) : J ω m_M_workOfOther (d + 1) mc ms 0 0 67 [] [.long y0] σ Q := by
  exact j_lret d_M_workOfOther_67 rfl (Nat.zero_le _) (Nat.zero_le _) h
set_option maxHeartbeats 2000000 in
theorem b_M_workOfOther_99 {ω : q_W} {σ : q_H} {Q : q_R → q_H → Prop} {d mc ms : Nat} {x1 : Int} {x3 : Int} {y0 : Int64} {y1 : Int64} {s : Nat} (hs : s = 110 ∨ s = 116) (rs0 : q_r σ 94 32 = s) (rs1 : q_r σ 94 33 = (s + 1)) (rs2 : q_r σ 94 34 = (s + 2)) (rs3 : q_r σ 94 35 = (s + 3)) (rs4 : q_r σ 94 36 = (s + 4)) (rs5 : q_r σ 94 37 = (s + 5)) (hE : q_E σ) (h : (0 ≤ x1 ∧ x1 < 9000) ∧ (0 ≤ (z σ (s + 2) x1.toNat) ∧ (z σ (s + 2) x1.toNat) < 9000) ∧ (0 ≤ (z σ (s + 3) x1.toNat) ∧ (z σ (s + 3) x1.toNat) < 9000) ∧ inR x3 ∧ inR (max (z σ (s + 5) (z σ (s + 2) x1.toNat).toNat) (z σ (s + 5) (z σ (s + 3) x1.toNat).toNat)) ∧ (J ω m_M_most d 0 0 0 0 0 [(0, .long ((y1 + y0) + (zI (max x3 (max (z σ (s + 5) (z σ (s + 2) x1.toNat).toNat) (z σ (s + 5) (z σ (s + 3) x1.toNat).toNat)))).toInt64))] [] σ (q_kl (fun v τ => J ω m_M_workOfOther (d + 1) mc ms 0 0 134 [] [.long v] τ Q)))) : J ω m_M_workOfOther (d + 1) mc ms 0 0 99 [(0, .ref 94), (1, .int (zI x1)), (3, .int (zI x3))] [.long y0, .long y1] σ Q := by
  refine j_ladd d_M_workOfOther_99 ?_
  refine j_iload_n d_M_workOfOther_100 2 rfl ?_
  refine j_aload_n d_M_workOfOther_101 0 rfl ?_
  refine j_getR (s + 5) f_M_76 d_M_workOfOther_102 (tg_94 hE) (q_okE hE (by decide)) (rs5) (by omega) ?_
  refine j_aload_n d_M_workOfOther_105 0 rfl ?_
  refine j_getR (s + 2) f_M_67 d_M_workOfOther_106 (tg_94 hE) (q_okE hE (by decide)) (rs2) (by omega) ?_
  refine j_iload_n d_M_workOfOther_109 1 rfl ?_
  obtain ⟨c8, h⟩ := h
  refine zj_iald (z σ (s + 2) x1.toNat) d_M_workOfOther_110 (tY_s_2 hE hs) (q_okE hE (by omega)) c8 (by decide) (q_z _ _ _) ?_
  obtain ⟨c9, h⟩ := h
  refine zj_iald (z σ (s + 5) (z σ (s + 2) x1.toNat).toNat) d_M_workOfOther_111 (tY_s_5 hE hs) (q_okE hE (by omega)) c9 (by decide) (q_z _ _ _) ?_
  refine j_aload_n d_M_workOfOther_112 0 rfl ?_
  refine j_getR (s + 5) f_M_76 d_M_workOfOther_113 (tg_94 hE) (q_okE hE (by decide)) (rs5) (by omega) ?_
  refine j_aload_n d_M_workOfOther_116 0 rfl ?_
  refine j_getR (s + 3) f_M_70 d_M_workOfOther_117 (tg_94 hE) (q_okE hE (by decide)) (rs3) (by omega) ?_
  refine j_iload_n d_M_workOfOther_120 1 rfl ?_
  refine zj_iald (z σ (s + 3) x1.toNat) d_M_workOfOther_121 (tY_s_3 hE hs) (q_okE hE (by omega)) c8 (by decide) (q_z _ _ _) ?_
  obtain ⟨c10, h⟩ := h
  refine zj_iald (z σ (s + 5) (z σ (s + 3) x1.toNat).toNat) d_M_workOfOther_122 (tY_s_5 hE hs) (q_okE hE (by omega)) c10 (by decide) (q_z _ _ _) ?_
  refine zj_max (List.mem_of_getElem? (i := 1915) (by decide +kernel)) d_M_workOfOther_123 (Nat.succ_le_succ (Nat.zero_le _)) (Nat.le_of_ble_eq_true rfl) (Nat.zero_le _) (Nat.zero_le _) (z_R _ _ _) (z_R _ _ _) ?_
  obtain ⟨r11, h⟩ := h
  obtain ⟨r12, h⟩ := h
  refine zj_max (List.mem_of_getElem? (i := 1915) (by decide +kernel)) d_M_workOfOther_126 (Nat.succ_le_succ (Nat.zero_le _)) (Nat.le_of_ble_eq_true rfl) (Nat.zero_le _) (Nat.zero_le _) r11 r12 ?_
  refine j_i2l d_M_workOfOther_129 ?_
  refine j_ladd d_M_workOfOther_130 ?_
  refine j_callS m_M_most [.long ((y1 + y0) + (zI (max x3 (max (z σ (s + 5) (z σ (s + 2) x1.toNat).toNat) (z σ (s + 5) (z σ (s + 3) x1.toNat).toNat)))).toInt64)] [] d 0 0 cS_M_312 d_M_workOfOther_131 rfl rfl (Nat.le_of_ble_eq_true rfl) (Nat.le_refl _) (Nat.le_of_ble_eq_true rfl) (Nat.zero_le _) (Nat.zero_le _) h (fun v τ h => ?_) (fun x τ h => ?_)
  · obtain ⟨v, e1, h⟩ := h; cases e1; exact j_sel [] rfl h
  · obtain ⟨v, e1, h⟩ := h; cases e1
set_option maxHeartbeats 2000000 in
theorem b_M_workOfOther_134 {ω : q_W} {σ : q_H} {Q : q_R → q_H → Prop} {d mc ms : Nat} {y0 : Int64} {s : Nat} (hs : s = 110 ∨ s = 116) (rs0 : q_r σ 94 32 = s) (rs1 : q_r σ 94 33 = (s + 1)) (rs2 : q_r σ 94 34 = (s + 2)) (rs3 : q_r σ 94 35 = (s + 3)) (rs4 : q_r σ 94 36 = (s + 4)) (rs5 : q_r σ 94 37 = (s + 5)) (hE : q_E σ) (h : (Q (.inl (some (.long y0))) σ)) : J ω m_M_workOfOther (d + 1) mc ms 0 0 134 [] [.long y0] σ Q := by
  exact j_lret d_M_workOfOther_134 rfl (Nat.zero_le _) (Nat.zero_le _) h
set_option maxHeartbeats 2000000 in
theorem b_M_fails_0 {ω : q_W} {σ : q_H} {Q : q_R → q_H → Prop} {d mc ms : Nat}  {s : Nat} (hs : s = 110 ∨ s = 116) (rs0 : q_r σ 94 32 = s) (rs1 : q_r σ 94 33 = (s + 1)) (rs2 : q_r σ 94 34 = (s + 2)) (rs3 : q_r σ 94 35 = (s + 3)) (rs4 : q_r σ 94 36 = (s + 4)) (rs5 : q_r σ 94 37 = (s + 5)) (hE : q_E σ) (h : (J ω m_M_questions d 0 0 0 0 0 [(0, .ref 94)] [] σ (q_ki (fun v τ => J ω m_M_fails (d + 1) mc ms 0 0 4 [(0, .ref 94)] [.int (zI v)] τ Q)))) : J ω m_M_fails (d + 1) mc ms 0 0 0 [(0, .ref 94)] [] σ Q := by
  refine j_aload_n d_M_fails_0 0 rfl ?_
  refine j_callV m_M_questions [] [] d 0 0 cV_M_402 d_M_fails_1 rfl rfl (tg_94 hE) (q_okE hE (by decide)) (Nat.le_of_ble_eq_true rfl) (Nat.le_refl _) (Nat.le_of_ble_eq_true rfl) (Nat.zero_le _) (Nat.zero_le _) h (fun v τ h => ?_) (fun x τ h => ?_)
  · obtain ⟨v, hv, e1, h⟩ := h; cases e1; exact j_sel [0] rfl h
  · obtain ⟨v, hv, e1, h⟩ := h; cases e1
set_option maxHeartbeats 2000000 in
theorem b_M_fails_4 {ω : q_W} {σ : q_H} {Q : q_R → q_H → Prop} {d mc ms : Nat} {y0 : Int} {s : Nat} (hs : s = 110 ∨ s = 116) (rs0 : q_r σ 94 32 = s) (rs1 : q_r σ 94 33 = (s + 1)) (rs2 : q_r σ 94 34 = (s + 2)) (rs3 : q_r σ 94 35 = (s + 3)) (rs4 : q_r σ 94 36 = (s + 4)) (rs5 : q_r σ 94 37 = (s + 5)) (hE : q_E σ) (h : inR y0 ∧ q_imp (y0 ≠ 0) ((J ω m_M_fails (d + 1) mc ms 0 0 15 [(0, .ref 94), (1, .int (zI 0))] [] σ Q)) ∧ q_imp (y0 = 0) ((J ω m_M_no d 0 0 0 0 0 [(0, .ref 94), (1, .int (zI 1))] [] σ (q_ki (fun v τ => J ω m_M_fails (d + 1) mc ms 0 0 12 [] [.int (zI v)] τ Q))))) : J ω m_M_fails (d + 1) mc ms 0 0 4 [(0, .ref 94)] [.int (zI y0)] σ Q := by
  obtain ⟨r1, h⟩ := h
  obtain ⟨h1, h2⟩ := h
  refine zj_if_ne 13 d_M_fails_4 (by decide) r1 (fun k2 => ?_) (fun k2 => ?_)
  · have h := h1 k2
    refine j_iconst (v := zI 0) d_M_fails_13 (by decide) ?_
    refine j_istore_n (L' := [(1, .int (zI 0)), (0, .ref 94)]) d_M_fails_14 (by decide) rfl ?_
    exact j_sel [1, 0] rfl h
  · have h := h2 k2
    refine j_aload_n d_M_fails_7 0 rfl ?_
    refine j_iconst (v := zI 1) d_M_fails_8 (by decide) ?_
    refine j_callV m_M_no [.int (zI 1)] [] d 0 0 cV_M_147 d_M_fails_9 rfl rfl (tg_94 hE) (q_okE hE (by decide)) (Nat.le_of_ble_eq_true rfl) (Nat.le_refl _) (Nat.le_of_ble_eq_true rfl) (Nat.zero_le _) (Nat.zero_le _) h (fun v τ h => ?_) (fun x τ h => ?_)
    · obtain ⟨v, hv, e1, h⟩ := h; cases e1; exact j_sel [] rfl h
    · obtain ⟨v, hv, e1, h⟩ := h; cases e1
set_option maxHeartbeats 2000000 in
theorem b_M_fails_15 {ω : q_W} {σ : q_H} {Q : q_R → q_H → Prop} {d mc ms : Nat} {x1 : Int} {s : Nat} (hs : s = 110 ∨ s = 116) (rs0 : q_r σ 94 32 = s) (rs1 : q_r σ 94 33 = (s + 1)) (rs2 : q_r σ 94 34 = (s + 2)) (rs3 : q_r σ 94 35 = (s + 3)) (rs4 : q_r σ 94 36 = (s + 4)) (rs5 : q_r σ 94 37 = (s + 5)) (hE : q_E σ) (h : inR x1 ∧ q_imp (x1 ≥ (zShl 1 (z σ 94 29))) ((J ω m_M_asked d 0 0 0 0 0 [(0, .ref 94), (1, .int (zI (-1)))] [] σ (q_ki (fun v τ => J ω m_M_fails (d + 1) mc ms 0 0 52 [] [.int (zI v)] τ Q)))) ∧ q_imp (x1 < (zShl 1 (z σ 94 29))) ((0 ≤ x1 ∧ x1 < 4096) ∧ q_imp ((z σ 122 x1.toNat) ≠ 1) ((J ω m_M_fails (d + 1) mc ms 0 0 15 [(0, .ref 94), (1, .int (zI (x1 + 1)))] [] σ Q)) ∧ q_imp ((z σ 122 x1.toNat) = 1) ((J ω m_M_asked d 0 0 0 0 0 [(0, .ref 94), (1, .int (zI x1))] [] σ (q_ki (fun v τ => J ω m_M_fails (d + 1) mc ms 0 0 40 [] [.int (zI v)] τ Q)))))) : J ω m_M_fails (d + 1) mc ms 0 0 15 [(0, .ref 94), (1, .int (zI x1))] [] σ Q := by
  refine j_iload_n d_M_fails_15 1 rfl ?_
  refine j_iconst (v := zI 1) d_M_fails_16 (by decide) ?_
  refine j_aload_n d_M_fails_17 0 rfl ?_
  refine zj_getI (z σ 94 29) f_M_366 d_M_fails_18 (tg_94 hE) (q_okE hE (by decide)) (q_z _ _ _) ?_
  refine zj_ishl d_M_fails_21 ?_
  obtain ⟨r3, h⟩ := h
  obtain ⟨h1, h2⟩ := h
  refine zj_icmp_ge 47 d_M_fails_22 (by decide) r3 (inR_of _) (fun k4 => ?_) (fun k4 => ?_)
  · have h := h1 k4
    refine j_aload_n d_M_fails_47 0 rfl ?_
    refine j_iconst (v := zI (-1)) d_M_fails_48 (by decide) ?_
    refine j_callV m_M_asked [.int (zI (-1))] [] d 0 0 cV_M_406 d_M_fails_49 rfl rfl (tg_94 hE) (q_okE hE (by decide)) (Nat.le_of_ble_eq_true rfl) (Nat.le_refl _) (Nat.le_of_ble_eq_true rfl) (Nat.zero_le _) (Nat.zero_le _) h (fun v τ h => ?_) (fun x τ h => ?_)
    · obtain ⟨v, hv, e1, h⟩ := h; cases e1; exact j_sel [] rfl h
    · obtain ⟨v, hv, e1, h⟩ := h; cases e1
  · have h := h2 k4
    refine j_aload_n d_M_fails_25 0 rfl ?_
    refine j_getR 122 f_M_104 d_M_fails_26 (tg_94 hE) (q_okE hE (by decide)) (rf_94_52 hE) (by decide) ?_
    refine j_iload_n d_M_fails_29 1 rfl ?_
    obtain ⟨c5, h⟩ := h
    refine zj_bald (z σ 122 x1.toNat) d_M_fails_30 (tg_122 hE) (q_okE hE (by decide)) c5 (by decide) (q_z _ _ _) ?_
    refine j_iconst (v := zI 1) d_M_fails_31 (by decide) ?_
    obtain ⟨h1, h2⟩ := h
    refine zj_icmp_ne 41 d_M_fails_32 (by decide) (z_R _ _ _) ⟨by decide, by decide⟩ (fun k6 => ?_) (fun k6 => ?_)
    · have h := h1 k6
      refine zj_iinc (L' := [(1, .int (zI (x1 + 1))), (0, .ref 94)]) (x1 + 1) d_M_fails_41 1 rfl (by omega) (by decide) rfl ?_
      refine j_goto 15 d_M_fails_44 (by decide) ?_
      exact j_sel [1, 0] rfl h
    · have h := h2 k6
      refine j_aload_n d_M_fails_35 0 rfl ?_
      refine j_iload_n d_M_fails_36 1 rfl ?_
      refine j_callV m_M_asked [.int (zI x1)] [] d 0 0 cV_M_406 d_M_fails_37 rfl rfl (tg_94 hE) (q_okE hE (by decide)) (Nat.le_of_ble_eq_true rfl) (Nat.le_refl _) (Nat.le_of_ble_eq_true rfl) (Nat.zero_le _) (Nat.zero_le _) h (fun v τ h => ?_) (fun x τ h => ?_)
      · obtain ⟨v, hv, e1, h⟩ := h; cases e1; exact j_sel [] rfl h
      · obtain ⟨v, hv, e1, h⟩ := h; cases e1
set_option maxHeartbeats 2000000 in
theorem b_M_fails_12 {ω : q_W} {σ : q_H} {Q : q_R → q_H → Prop} {d mc ms : Nat} {y0 : Int} {s : Nat} (hs : s = 110 ∨ s = 116) (rs0 : q_r σ 94 32 = s) (rs1 : q_r σ 94 33 = (s + 1)) (rs2 : q_r σ 94 34 = (s + 2)) (rs3 : q_r σ 94 35 = (s + 3)) (rs4 : q_r σ 94 36 = (s + 4)) (rs5 : q_r σ 94 37 = (s + 5)) (hE : q_E σ) (h : (Q (.inl (some (.int (zI y0)))) σ)) : J ω m_M_fails (d + 1) mc ms 0 0 12 [] [.int (zI y0)] σ Q := by
  exact zj_iret d_M_fails_12 rfl (Nat.zero_le _) (Nat.zero_le _) h
set_option maxHeartbeats 2000000 in
theorem b_M_fails_52 {ω : q_W} {σ : q_H} {Q : q_R → q_H → Prop} {d mc ms : Nat} {y0 : Int} {s : Nat} (hs : s = 110 ∨ s = 116) (rs0 : q_r σ 94 32 = s) (rs1 : q_r σ 94 33 = (s + 1)) (rs2 : q_r σ 94 34 = (s + 2)) (rs3 : q_r σ 94 35 = (s + 3)) (rs4 : q_r σ 94 36 = (s + 4)) (rs5 : q_r σ 94 37 = (s + 5)) (hE : q_E σ) (h : (Q (.inl (some (.int (zI y0)))) σ)) : J ω m_M_fails (d + 1) mc ms 0 0 52 [] [.int (zI y0)] σ Q := by
  exact zj_iret d_M_fails_52 rfl (Nat.zero_le _) (Nat.zero_le _) h
set_option maxHeartbeats 2000000 in
theorem b_M_fails_40 {ω : q_W} {σ : q_H} {Q : q_R → q_H → Prop} {d mc ms : Nat} {y0 : Int} {s : Nat} (hs : s = 110 ∨ s = 116) (rs0 : q_r σ 94 32 = s) (rs1 : q_r σ 94 33 = (s + 1)) (rs2 : q_r σ 94 34 = (s + 2)) (rs3 : q_r σ 94 35 = (s + 3)) (rs4 : q_r σ 94 36 = (s + 4)) (rs5 : q_r σ 94 37 = (s + 5)) (hE : q_E σ) (h : (Q (.inl (some (.int (zI y0)))) σ)) : J ω m_M_fails (d + 1) mc ms 0 0 40 [] [.int (zI y0)] σ Q := by
  exact zj_iret d_M_fails_40 rfl (Nat.zero_le _) (Nat.zero_le _) h
set_option maxHeartbeats 2000000 in
theorem b_M_questions_0 {ω : q_W} {σ : q_H} {Q : q_R → q_H → Prop} {d mc ms : Nat}  {s : Nat} (hs : s = 110 ∨ s = 116) (rs0 : q_r σ 94 32 = s) (rs1 : q_r σ 94 33 = (s + 1)) (rs2 : q_r σ 94 34 = (s + 2)) (rs3 : q_r σ 94 35 = (s + 3)) (rs4 : q_r σ 94 36 = (s + 4)) (rs5 : q_r σ 94 37 = (s + 5)) (hE : q_E σ) (h : q_imp ((z σ 94 31) ≠ 0) (q_imp ((z σ 94 55) = 0) ((J ω m_M_questions (d + 1) mc ms 0 0 25 [(0, .ref 94), (1, .int (zI 0))] [] (zs σ 94 55 1) Q)) ∧ q_imp ((z σ 94 55) ≠ 0) ((Q (.inl (some (.int (zI 1)))) σ))) ∧ q_imp ((z σ 94 31) = 0) ((Q (.inl (some (.int (zI 0)))) σ))) : J ω m_M_questions (d + 1) mc ms 0 0 0 [(0, .ref 94)] [] σ Q := by
  refine j_aload_n d_M_questions_0 0 rfl ?_
  refine zj_getZ (z σ 94 31) f_M_347 d_M_questions_1 (tg_94 hE) (q_okE hE (by decide)) (q_z _ _ _) ?_
  obtain ⟨h1, h2⟩ := h
  refine zj_if_ne 9 d_M_questions_4 (by decide) (z_R _ _ _) (fun k1 => ?_) (fun k1 => ?_)
  · have h := h1 k1
    refine j_aload_n d_M_questions_9 0 rfl ?_
    refine zj_getZ (z σ 94 55) f_M_369 d_M_questions_10 (tg_94 hE) (q_okE hE (by decide)) (q_z _ _ _) ?_
    obtain ⟨h1, h2⟩ := h
    refine zj_if_eq 18 d_M_questions_13 (by decide) (z_R _ _ _) (fun k2 => ?_) (fun k2 => ?_)
    · have h := h1 k2
      refine j_aload_n d_M_questions_18 0 rfl ?_
      refine j_iconst (v := zI 1) d_M_questions_19 (by decide) ?_
      refine zj_putZ (g_M_369 _) d_M_questions_20 (tg_94 hE) (q_okE hE (by decide)) (by decide) ?_
      refine j_iconst (v := zI 0) d_M_questions_23 (by decide) ?_
      refine j_istore_n (L' := [(1, .int (zI 0)), (0, .ref 94)]) d_M_questions_24 (by decide) rfl ?_
      exact j_sel [1, 0] rfl h
    · have h := h2 k2
      refine j_iconst (v := zI 1) d_M_questions_16 (by decide) ?_
      exact zj_zret d_M_questions_17 rfl (by decide) (Nat.zero_le _) (Nat.zero_le _) h
  · have h := h2 k1
    refine j_iconst (v := zI 0) d_M_questions_7 (by decide) ?_
    exact zj_zret d_M_questions_8 rfl (by decide) (Nat.zero_le _) (Nat.zero_le _) h
set_option maxHeartbeats 2000000 in
theorem b_M_questions_25 {ω : q_W} {σ : q_H} {Q : q_R → q_H → Prop} {d mc ms : Nat} {x1 : Int} {s : Nat} (hs : s = 110 ∨ s = 116) (rs0 : q_r σ 94 32 = s) (rs1 : q_r σ 94 33 = (s + 1)) (rs2 : q_r σ 94 34 = (s + 2)) (rs3 : q_r σ 94 35 = (s + 3)) (rs4 : q_r σ 94 36 = (s + 4)) (rs5 : q_r σ 94 37 = (s + 5)) (hE : q_E σ) (h : inR x1 ∧ q_imp (x1 ≥ (zShl 1 (z σ 94 29))) ((Q (.inl (some (.int (zI 1)))) σ)) ∧ q_imp (x1 < (zShl 1 (z σ 94 29))) ((J ω m_M_spread d 0 0 0 0 0 [(0, .ref 94), (1, .int (zI x1)), (2, .ref 125)] [] σ (q_kv (fun τ => J ω m_M_questions (d + 1) mc ms 0 0 44 [(0, .ref 94), (1, .int (zI x1))] [] τ Q))))) : J ω m_M_questions (d + 1) mc ms 0 0 25 [(0, .ref 94), (1, .int (zI x1))] [] σ Q := by
  refine j_iload_n d_M_questions_25 1 rfl ?_
  refine j_iconst (v := zI 1) d_M_questions_26 (by decide) ?_
  refine j_aload_n d_M_questions_27 0 rfl ?_
  refine zj_getI (z σ 94 29) f_M_366 d_M_questions_28 (tg_94 hE) (q_okE hE (by decide)) (q_z _ _ _) ?_
  refine zj_ishl d_M_questions_31 ?_
  obtain ⟨r3, h⟩ := h
  obtain ⟨h1, h2⟩ := h
  refine zj_icmp_ge 121 d_M_questions_32 (by decide) r3 (inR_of _) (fun k4 => ?_) (fun k4 => ?_)
  · have h := h1 k4
    refine j_iconst (v := zI 1) d_M_questions_121 (by decide) ?_
    exact zj_zret d_M_questions_122 rfl (by decide) (Nat.zero_le _) (Nat.zero_le _) h
  · have h := h2 k4
    refine j_aload_n d_M_questions_35 0 rfl ?_
    refine j_iload_n d_M_questions_36 1 rfl ?_
    refine j_aload_n d_M_questions_37 0 rfl ?_
    refine j_getR 125 f_M_114 d_M_questions_38 (tg_94 hE) (q_okE hE (by decide)) (rf_94_56 hE) (by decide) ?_
    refine j_callV m_M_spread [.int (zI x1), .ref 125] [] d 0 0 cV_M_395 d_M_questions_41 rfl rfl (tg_94 hE) (q_okE hE (by decide)) (Nat.le_of_ble_eq_true rfl) (Nat.le_refl _) (Nat.le_of_ble_eq_true rfl) (Nat.zero_le _) (Nat.zero_le _) h (fun v τ h => ?_) (fun x τ h => ?_)
    · obtain ⟨e1, h⟩ := h; cases e1; exact j_sel [0, 1] rfl h
    · obtain ⟨e1, h⟩ := h; cases e1
set_option maxHeartbeats 2000000 in
theorem b_M_questions_44 {ω : q_W} {σ : q_H} {Q : q_R → q_H → Prop} {d mc ms : Nat} {x1 : Int} {s : Nat} (hs : s = 110 ∨ s = 116) (rs0 : q_r σ 94 32 = s) (rs1 : q_r σ 94 33 = (s + 1)) (rs2 : q_r σ 94 34 = (s + 2)) (rs3 : q_r σ 94 35 = (s + 3)) (rs4 : q_r σ 94 36 = (s + 4)) (rs5 : q_r σ 94 37 = (s + 5)) (hE : q_E σ) (h : (J ω m_M_runWhole d 0 0 0 0 0 [(0, .ref 94)] [] σ (q_ki (fun v τ => J ω m_M_questions (d + 1) mc ms 0 0 53 [(0, .ref 94), (1, .int (zI x1))] [.int (zI v), .int (zI x1), .ref 122] τ Q)))) : J ω m_M_questions (d + 1) mc ms 0 0 44 [(0, .ref 94), (1, .int (zI x1))] [] σ Q := by
  refine j_aload_n d_M_questions_44 0 rfl ?_
  refine j_getR 122 f_M_104 d_M_questions_45 (tg_94 hE) (q_okE hE (by decide)) (rf_94_52 hE) (by decide) ?_
  refine j_iload_n d_M_questions_48 1 rfl ?_
  refine j_aload_n d_M_questions_49 0 rfl ?_
  refine j_callV m_M_runWhole [] [.int (zI x1), .ref 122] d 0 0 cV_M_399 d_M_questions_50 rfl rfl (tg_94 hE) (q_okE hE (by decide)) (Nat.le_of_ble_eq_true rfl) (Nat.le_refl _) (Nat.le_of_ble_eq_true rfl) (Nat.zero_le _) (Nat.zero_le _) h (fun v τ h => ?_) (fun x τ h => ?_)
  · obtain ⟨v, hv, e1, h⟩ := h; cases e1; exact j_sel [0, 1] rfl h
  · obtain ⟨v, hv, e1, h⟩ := h; cases e1
set_option maxHeartbeats 2000000 in
theorem b_M_questions_53 {ω : q_W} {σ : q_H} {Q : q_R → q_H → Prop} {d mc ms : Nat} {x1 : Int} {y0 : Int} {y1 : Int} {s : Nat} (hs : s = 110 ∨ s = 116) (rs0 : q_r σ 94 32 = s) (rs1 : q_r σ 94 33 = (s + 1)) (rs2 : q_r σ 94 34 = (s + 2)) (rs3 : q_r σ 94 35 = (s + 3)) (rs4 : q_r σ 94 36 = (s + 4)) (rs5 : q_r σ 94 37 = (s + 5)) (hE : q_E σ) (h : (0 ≤ y1 ∧ y1 < 4096) ∧ (0 ≤ x1 ∧ x1 < 4096) ∧ (J ω m_M_questions (d + 1) mc ms 0 0 83 [(0, .ref 94), (1, .int (zI x1)), (2, .int (zI 0))] [] (zs (zs (zs σ 122 y1.toNat (zB (zB y0))) 123 x1.toNat (zB (zB (min (z σ 94 61) 127)))) 131 x1.toNat (z σ 94 61)) Q)) : J ω m_M_questions (d + 1) mc ms 0 0 53 [(0, .ref 94), (1, .int (zI x1))] [.int (zI y0), .int (zI y1), .ref 122] σ Q := by
  refine zj_i2b d_M_questions_53 ?_
  obtain ⟨c5, h⟩ := h
  refine zj_bast d_M_questions_54 (tg_122 hE) (q_okE hE (by decide)) c5 (by decide) ?_
  refine j_aload_n d_M_questions_55 0 rfl ?_
  refine j_getR 123 f_M_107 d_M_questions_56 (tg_94 (zs_E hE)) (q_okE (zs_E hE) (by decide)) (rf_94_53 (zs_E hE)) (by decide) ?_
  refine j_iload_n d_M_questions_59 1 rfl ?_
  refine j_aload_n d_M_questions_60 0 rfl ?_
  refine zj_getI (z σ 94 61) f_M_392 d_M_questions_61 (tg_94 (zs_E hE)) (q_okE (zs_E hE) (by decide)) (Eq.trans (qs_o (by decide)) (q_z _ _ _)) ?_
  refine j_bipush (v := zI 127) d_M_questions_64 (by decide) ?_
  refine zj_min (List.mem_of_getElem? (i := 1791) (by decide +kernel)) d_M_questions_66 (Nat.succ_le_succ (Nat.zero_le _)) (Nat.le_of_ble_eq_true rfl) (Nat.zero_le _) (Nat.zero_le _) (z_R _ _ _) ⟨by decide, by decide⟩ ?_
  refine zj_i2b d_M_questions_69 ?_
  obtain ⟨c6, h⟩ := h
  refine zj_bast d_M_questions_70 (tg_123 (zs_E hE)) (q_okE (zs_E hE) (by decide)) c6 (by decide) ?_
  refine j_aload_n d_M_questions_71 0 rfl ?_
  refine j_getR 131 f_M_138 d_M_questions_72 (tg_94 (zs_E (zs_E hE))) (q_okE (zs_E (zs_E hE)) (by decide)) (rf_94_66 (zs_E (zs_E hE))) (by decide) ?_
  refine j_iload_n d_M_questions_75 1 rfl ?_
  refine j_aload_n d_M_questions_76 0 rfl ?_
  refine zj_getI (z σ 94 61) f_M_392 d_M_questions_77 (tg_94 (zs_E (zs_E hE))) (q_okE (zs_E (zs_E hE)) (by decide)) (Eq.trans (qs_o (by decide)) (Eq.trans (qs_o (by decide)) (q_z _ _ _))) ?_
  refine zj_iast d_M_questions_80 (tg_131 (zs_E (zs_E hE))) (q_okE (zs_E (zs_E hE)) (by decide)) c6 (by decide) ?_
  refine j_iconst (v := zI 0) d_M_questions_81 (by decide) ?_
  refine j_istore_n (L' := [(2, .int (zI 0)), (0, .ref 94), (1, .int (zI x1))]) d_M_questions_82 (by decide) rfl ?_
  exact j_sel [1, 2, 0] rfl h
set_option maxHeartbeats 2000000 in
theorem b_M_questions_83 {ω : q_W} {σ : q_H} {Q : q_R → q_H → Prop} {d mc ms : Nat} {x1 : Int} {x2 : Int} {s : Nat} (hs : s = 110 ∨ s = 116) (rs0 : q_r σ 94 32 = s) (rs1 : q_r σ 94 33 = (s + 1)) (rs2 : q_r σ 94 34 = (s + 2)) (rs3 : q_r σ 94 35 = (s + 3)) (rs4 : q_r σ 94 36 = (s + 4)) (rs5 : q_r σ 94 37 = (s + 5)) (hE : q_E σ) (h : inR x2 ∧ q_imp (x2 ≥ (z σ 94 27)) ((J ω m_M_questions (d + 1) mc ms 0 0 25 [(0, .ref 94), (1, .int (zI (x1 + 1)))] [] σ Q)) ∧ q_imp (x2 < (z σ 94 27)) ((0 ≤ x2 ∧ x2 < 16) ∧ (0 ≤ ((12 * x1) + x2) ∧ ((12 * x1) + x2) < 49152) ∧ (J ω m_M_questions (d + 1) mc ms 0 0 83 [(0, .ref 94), (1, .int (zI x1)), (2, .int (zI (x2 + 1)))] [] (zs σ 124 ((12 * x1) + x2).toNat (zB (zB (z σ 128 x2.toNat)))) Q))) : J ω m_M_questions (d + 1) mc ms 0 0 83 [(0, .ref 94), (1, .int (zI x1)), (2, .int (zI x2))] [] σ Q := by
  refine j_iload_n d_M_questions_83 2 rfl ?_
  refine j_aload_n d_M_questions_84 0 rfl ?_
  refine zj_getI (z σ 94 27) f_M_360 d_M_questions_85 (tg_94 hE) (q_okE hE (by decide)) (q_z _ _ _) ?_
  obtain ⟨r7, h⟩ := h
  obtain ⟨h1, h2⟩ := h
  refine zj_icmp_ge 115 d_M_questions_88 (by decide) r7 (z_R _ _ _) (fun k8 => ?_) (fun k8 => ?_)
  · have h := h1 k8
    refine zj_iinc (L' := [(1, .int (zI (x1 + 1))), (0, .ref 94), (2, .int (zI x2))]) (x1 + 1) d_M_questions_115 1 rfl (by omega) (by decide) rfl ?_
    refine j_goto 25 d_M_questions_118 (by decide) ?_
    exact j_sel [1, 0] rfl h
  · have h := h2 k8
    refine j_aload_n d_M_questions_91 0 rfl ?_
    refine j_getR 124 f_M_111 d_M_questions_92 (tg_94 hE) (q_okE hE (by decide)) (rf_94_54 hE) (by decide) ?_
    refine j_bipush (v := zI 12) d_M_questions_95 (by decide) ?_
    refine j_iload_n d_M_questions_97 1 rfl ?_
    refine zj_imul (12 * x1) rfl d_M_questions_98 ?_
    refine j_iload_n d_M_questions_99 2 rfl ?_
    refine zj_iadd ((12 * x1) + x2) rfl d_M_questions_100 ?_
    refine j_aload_n d_M_questions_101 0 rfl ?_
    refine j_getR 128 f_M_123 d_M_questions_102 (tg_94 hE) (q_okE hE (by decide)) (rf_94_59 hE) (by decide) ?_
    refine j_iload_n d_M_questions_105 2 rfl ?_
    obtain ⟨c9, h⟩ := h
    refine zj_iald (z σ 128 x2.toNat) d_M_questions_106 (tg_128 hE) (q_okE hE (by decide)) c9 (by decide) (q_z _ _ _) ?_
    refine zj_i2b d_M_questions_107 ?_
    obtain ⟨c10, h⟩ := h
    refine zj_bast d_M_questions_108 (tg_124 hE) (q_okE hE (by decide)) c10 (by decide) ?_
    refine zj_iinc (L' := [(2, .int (zI (x2 + 1))), (0, .ref 94), (1, .int (zI x1))]) (x2 + 1) d_M_questions_109 2 rfl (by omega) (by decide) rfl ?_
    refine j_goto 83 d_M_questions_112 (by decide) ?_
    exact j_sel [1, 2, 0] rfl h
set_option maxHeartbeats 2000000 in
theorem b_M_spread_0 {ω : q_W} {σ : q_H} {Q : q_R → q_H → Prop} {d mc ms : Nat} {x1 : Int} {s : Nat} (hs : s = 110 ∨ s = 116) (rs0 : q_r σ 94 32 = s) (rs1 : q_r σ 94 33 = (s + 1)) (rs2 : q_r σ 94 34 = (s + 2)) (rs3 : q_r σ 94 35 = (s + 3)) (rs4 : q_r σ 94 36 = (s + 4)) (rs5 : q_r σ 94 37 = (s + 5)) {t : Nat} (ht : t = 125 ∨ t = 126 ∨ t = 127) (hE : q_E σ) (h : (J ω m_M_spread (d + 1) mc ms 0 0 10 [(0, .ref 94), (2, .ref t), (3, .int (zI x1)), (4, .int (zI ((z σ 94 26) - 1)))] [] σ Q)) : J ω m_M_spread (d + 1) mc ms 0 0 0 [(0, .ref 94), (1, .int (zI x1)), (2, .ref t)] [] σ Q := by
  refine j_iload_n d_M_spread_0 1 rfl ?_
  refine j_istore_n (L' := [(3, .int (zI x1)), (0, .ref 94), (1, .int (zI x1)), (2, .ref t)]) d_M_spread_1 (by decide) rfl ?_
  refine j_aload_n d_M_spread_2 1 rfl ?_
  refine zj_getI (z σ 94 26) f_M_357 d_M_spread_3 (tg_94 hE) (q_okE hE (by decide)) (q_z _ _ _) ?_
  refine j_iconst (v := zI 1) d_M_spread_6 (by decide) ?_
  refine zj_isub ((z σ 94 26) - 1) (by omega) d_M_spread_7 ?_
  refine j_istore (L' := [(4, .int (zI ((z σ 94 26) - 1))), (3, .int (zI x1)), (0, .ref 94), (1, .int (zI x1)), (2, .ref t)]) d_M_spread_8 (by decide) rfl ?_
  exact j_sel [2, 4, 1, 0] rfl h
set_option maxHeartbeats 2000000 in
theorem b_M_spread_10 {ω : q_W} {σ : q_H} {Q : q_R → q_H → Prop} {d mc ms : Nat} {x3 : Int} {x4 : Int} {s : Nat} (hs : s = 110 ∨ s = 116) (rs0 : q_r σ 94 32 = s) (rs1 : q_r σ 94 33 = (s + 1)) (rs2 : q_r σ 94 34 = (s + 2)) (rs3 : q_r σ 94 35 = (s + 3)) (rs4 : q_r σ 94 36 = (s + 4)) (rs5 : q_r σ 94 37 = (s + 5)) {t : Nat} (ht : t = 125 ∨ t = 126 ∨ t = 127) (hE : q_E σ) (h : inR x4 ∧ q_imp (x4 < 0) ((Q (.inl none) σ)) ∧ q_imp (0 ≤ x4) ((0 ≤ x4 ∧ x4 < 16) ∧ inR x3 ∧ (J ω m_M_spread (d + 1) mc ms 0 0 10 [(0, .ref 94), (2, .ref t), (3, .int (zI (zShr x3 (z σ 106 x4.toNat)))), (4, .int (zI (x4 - 1)))] [] (zs σ t x4.toNat (zAnd x3 (zShl 1 (z σ 106 x4.toNat) - 1))) Q))) : J ω m_M_spread (d + 1) mc ms 0 0 10 [(0, .ref 94), (2, .ref t), (3, .int (zI x3)), (4, .int (zI x4))] [] σ Q := by
  refine j_iload d_M_spread_10 3 rfl ?_
  obtain ⟨r1, h⟩ := h
  obtain ⟨h1, h2⟩ := h
  refine zj_if_lt 46 d_M_spread_12 (by decide) r1 (fun k2 => ?_) (fun k2 => ?_)
  · have h := h1 k2
    exact j_vret d_M_spread_46 rfl (Nat.zero_le _) (Nat.zero_le _) h
  · have h := h2 k2
    refine j_aload_n d_M_spread_15 1 rfl ?_
    refine j_iload d_M_spread_16 3 rfl ?_
    refine j_iload_n d_M_spread_18 2 rfl ?_
    refine j_aload_n d_M_spread_19 0 rfl ?_
    refine j_getR 106 f_M_49 d_M_spread_20 (tg_94 hE) (q_okE hE (by decide)) (rf_94_22 hE) (by decide) ?_
    refine j_iload d_M_spread_23 3 rfl ?_
    obtain ⟨c3, h⟩ := h
    refine zj_iald (z σ 106 x4.toNat) d_M_spread_25 (tg_106 hE) (q_okE hE (by decide)) c3 (by decide) (q_z _ _ _) ?_
    obtain ⟨r4, h⟩ := h
    refine j_callS m_M_cut_2 [.int (zI x3), .int (zI (z σ 106 x4.toNat))] [.int (zI x4), .ref t] 0 0 0 cS_M_384 d_M_spread_26 rfl rfl (Nat.le_of_ble_eq_true rfl) (Nat.succ_le_succ (Nat.zero_le _)) (Nat.le_of_ble_eq_true rfl) (Nat.zero_le _) (Nat.zero_le _) (c_M_cut_2 hE r4 (z_R _ _ _)) (fun v τ h => ?_) (fun x τ h => absurd h.1 (by simp))
    obtain ⟨e1, e2⟩ := h; cases e1; rw [e2]
    refine zj_iast d_M_spread_29 (tY_t_0 hE ht) (q_okE hE (by omega)) c3 (by decide) ?_
    refine j_iload_n d_M_spread_30 2 rfl ?_
    refine j_aload_n d_M_spread_31 0 rfl ?_
    refine j_getR 106 f_M_49 d_M_spread_32 (tg_94 (zs_E hE)) (q_okE (zs_E hE) (by decide)) (rf_94_22 (zs_E hE)) (by decide) ?_
    refine j_iload d_M_spread_35 3 rfl ?_
    refine zj_iald (z σ 106 x4.toNat) d_M_spread_37 (tg_106 (zs_E hE)) (q_okE (zs_E hE) (by decide)) c3 (by decide) (Eq.trans (qs_o (by omega)) (q_z _ _ _)) ?_
    refine zj_ishr d_M_spread_38 ?_
    refine j_istore_n (L' := [(3, .int (zI (zShr x3 (z σ 106 x4.toNat)))), (0, .ref 94), (2, .ref t), (4, .int (zI x4))]) d_M_spread_39 (by decide) rfl ?_
    refine zj_iinc (L' := [(4, .int (zI (x4 - 1))), (3, .int (zI (zShr x3 (z σ 106 x4.toNat)))), (0, .ref 94), (2, .ref t)]) (x4 - 1) d_M_spread_40 3 rfl (by omega) (by decide) rfl ?_
    refine j_goto 10 d_M_spread_43 (by decide) ?_
    exact j_sel [2, 3, 1, 0] rfl h
