/-! stretches of bytecode as conditions: Sc -/
theorem d_Sc_cut_35 : decode m_Sc_cut.2.1 35 = .ok (.aload_n 0, 1) := by decide +kernel
theorem d_Sc_cut_36 : decode m_Sc_cut.2.1 36 = .ok (.getfield 9, 3) := by decide +kernel
theorem d_Sc_cut_39 : decode m_Sc_cut.2.1 39 = .ok (.aload_n 0, 1) := by decide +kernel
theorem d_Sc_cut_40 : decode m_Sc_cut.2.1 40 = .ok (.getfield 68, 3) := by decide +kernel
theorem d_Sc_cut_43 : decode m_Sc_cut.2.1 43 = .ok (.baload, 1) := by decide +kernel
theorem d_Sc_cut_44 : decode m_Sc_cut.2.1 44 = .ok (.bipush 32, 2) := by decide +kernel
theorem d_Sc_cut_46 : decode m_Sc_cut.2.1 46 = .ok (.if_icmp .eq 17, 3) := by decide +kernel
theorem d_Sc_cut_49 : decode m_Sc_cut.2.1 49 = .ok (.aload_n 0, 1) := by decide +kernel
theorem d_Sc_cut_50 : decode m_Sc_cut.2.1 50 = .ok (.getfield 9, 3) := by decide +kernel
theorem d_Sc_cut_53 : decode m_Sc_cut.2.1 53 = .ok (.aload_n 0, 1) := by decide +kernel
theorem d_Sc_cut_54 : decode m_Sc_cut.2.1 54 = .ok (.getfield 68, 3) := by decide +kernel
theorem d_Sc_cut_57 : decode m_Sc_cut.2.1 57 = .ok (.baload, 1) := by decide +kernel
theorem d_Sc_cut_58 : decode m_Sc_cut.2.1 58 = .ok (.bipush 10, 2) := by decide +kernel
theorem d_Sc_cut_60 : decode m_Sc_cut.2.1 60 = .ok (.if_icmp .ne 16, 3) := by decide +kernel
theorem d_Sc_cut_63 : decode m_Sc_cut.2.1 63 = .ok (.aload_n 0, 1) := by decide +kernel
theorem d_Sc_cut_64 : decode m_Sc_cut.2.1 64 = .ok (.dup, 1) := by decide +kernel
theorem d_Sc_cut_65 : decode m_Sc_cut.2.1 65 = .ok (.getfield 68, 3) := by decide +kernel
theorem d_Sc_cut_68 : decode m_Sc_cut.2.1 68 = .ok (.iconst 1, 1) := by decide +kernel
theorem d_Sc_cut_69 : decode m_Sc_cut.2.1 69 = .ok (.iadd, 1) := by decide +kernel
theorem d_Sc_cut_70 : decode m_Sc_cut.2.1 70 = .ok (.putfield 68, 3) := by decide +kernel
theorem d_Sc_cut_73 : decode m_Sc_cut.2.1 73 = .ok (.goto (-49), 3) := by decide +kernel
theorem d_Sc_cut_123 : decode m_Sc_cut.2.1 123 = .ok (.aload_n 0, 1) := by decide +kernel
theorem d_Sc_cut_124 : decode m_Sc_cut.2.1 124 = .ok (.getfield 9, 3) := by decide +kernel
theorem d_Sc_cut_127 : decode m_Sc_cut.2.1 127 = .ok (.aload_n 0, 1) := by decide +kernel
theorem d_Sc_cut_128 : decode m_Sc_cut.2.1 128 = .ok (.getfield 68, 3) := by decide +kernel
theorem d_Sc_cut_131 : decode m_Sc_cut.2.1 131 = .ok (.baload, 1) := by decide +kernel
theorem d_Sc_cut_132 : decode m_Sc_cut.2.1 132 = .ok (.invokestatic 71, 3) := by decide +kernel
theorem d_Sc_cut_135 : decode m_Sc_cut.2.1 135 = .ok (.ifCond .eq 10, 3) := by decide +kernel
theorem d_Sc_cut_138 : decode m_Sc_cut.2.1 138 = .ok (.aload_n 0, 1) := by decide +kernel
theorem d_Sc_cut_139 : decode m_Sc_cut.2.1 139 = .ok (.invokevirtual 75, 3) := by decide +kernel
theorem d_Sc_cut_142 : decode m_Sc_cut.2.1 142 = .ok (.goto 29, 3) := by decide +kernel
theorem d_Sc_cut_145 : decode m_Sc_cut.2.1 145 = .ok (.aload_n 0, 1) := by decide +kernel
theorem d_Sc_cut_146 : decode m_Sc_cut.2.1 146 = .ok (.getfield 9, 3) := by decide +kernel
theorem d_Sc_cut_149 : decode m_Sc_cut.2.1 149 = .ok (.aload_n 0, 1) := by decide +kernel
theorem d_Sc_cut_150 : decode m_Sc_cut.2.1 150 = .ok (.getfield 68, 3) := by decide +kernel
theorem d_Sc_cut_153 : decode m_Sc_cut.2.1 153 = .ok (.baload, 1) := by decide +kernel
theorem d_Sc_cut_154 : decode m_Sc_cut.2.1 154 = .ok (.invokestatic 78, 3) := by decide +kernel
theorem d_Sc_cut_157 : decode m_Sc_cut.2.1 157 = .ok (.ifCond .eq 10, 3) := by decide +kernel
theorem d_Sc_cut_160 : decode m_Sc_cut.2.1 160 = .ok (.aload_n 0, 1) := by decide +kernel
theorem d_Sc_cut_161 : decode m_Sc_cut.2.1 161 = .ok (.invokevirtual 81, 3) := by decide +kernel
theorem d_Sc_cut_164 : decode m_Sc_cut.2.1 164 = .ok (.goto 7, 3) := by decide +kernel
theorem d_Sc_cut_167 : decode m_Sc_cut.2.1 167 = .ok (.aload_n 0, 1) := by decide +kernel
theorem d_Sc_cut_168 : decode m_Sc_cut.2.1 168 = .ok (.invokevirtual 84, 3) := by decide +kernel
theorem d_Sc_cut_199 : decode m_Sc_cut.2.1 199 = .ok (.iinc 1 1, 3) := by decide +kernel
theorem d_Sc_cut_202 : decode m_Sc_cut.2.1 202 = .ok (.goto (-185), 3) := by decide +kernel
theorem d_Sc_cut_205 : decode m_Sc_cut.2.1 205 = .ok (.return_, 1) := by decide +kernel
theorem d_Sc_word_0 : decode m_Sc_word.2.1 0 = .ok (.lconst 0, 1) := by decide +kernel
theorem d_Sc_word_1 : decode m_Sc_word.2.1 1 = .ok (.lstore_n 1, 1) := by decide +kernel
theorem d_Sc_word_2 : decode m_Sc_word.2.1 2 = .ok (.aload_n 0, 1) := by decide +kernel
theorem d_Sc_word_3 : decode m_Sc_word.2.1 3 = .ok (.getfield 68, 3) := by decide +kernel
theorem d_Sc_word_6 : decode m_Sc_word.2.1 6 = .ok (.istore_n 3, 1) := by decide +kernel
theorem d_Sc_word_7 : decode m_Sc_word.2.1 7 = .ok (.aload_n 0, 1) := by decide +kernel
theorem d_Sc_word_8 : decode m_Sc_word.2.1 8 = .ok (.getfield 68, 3) := by decide +kernel
theorem d_Sc_word_11 : decode m_Sc_word.2.1 11 = .ok (.aload_n 0, 1) := by decide +kernel
theorem d_Sc_word_12 : decode m_Sc_word.2.1 12 = .ok (.getfield 59, 3) := by decide +kernel
theorem d_Sc_word_15 : decode m_Sc_word.2.1 15 = .ok (.if_icmp .ge 53, 3) := by decide +kernel
theorem d_Sc_word_18 : decode m_Sc_word.2.1 18 = .ok (.aload_n 0, 1) := by decide +kernel
theorem d_Sc_word_19 : decode m_Sc_word.2.1 19 = .ok (.getfield 9, 3) := by decide +kernel
theorem d_Sc_word_22 : decode m_Sc_word.2.1 22 = .ok (.aload_n 0, 1) := by decide +kernel
theorem d_Sc_word_23 : decode m_Sc_word.2.1 23 = .ok (.getfield 68, 3) := by decide +kernel
theorem d_Sc_word_26 : decode m_Sc_word.2.1 26 = .ok (.baload, 1) := by decide +kernel
theorem d_Sc_word_27 : decode m_Sc_word.2.1 27 = .ok (.invokestatic 71, 3) := by decide +kernel
theorem d_Sc_word_30 : decode m_Sc_word.2.1 30 = .ok (.ifCond .eq 38, 3) := by decide +kernel
theorem d_Sc_word_33 : decode m_Sc_word.2.1 33 = .ok (.lload_n 1, 1) := by decide +kernel
theorem d_Sc_word_34 : decode m_Sc_word.2.1 34 = .ok (.ldc2_w 53, 3) := by decide +kernel
theorem d_Sc_word_37 : decode m_Sc_word.2.1 37 = .ok (.lmul, 1) := by decide +kernel
theorem d_Sc_word_38 : decode m_Sc_word.2.1 38 = .ok (.aload_n 0, 1) := by decide +kernel
theorem d_Sc_word_39 : decode m_Sc_word.2.1 39 = .ok (.getfield 9, 3) := by decide +kernel
theorem d_Sc_word_42 : decode m_Sc_word.2.1 42 = .ok (.aload_n 0, 1) := by decide +kernel
theorem d_Sc_word_43 : decode m_Sc_word.2.1 43 = .ok (.getfield 68, 3) := by decide +kernel
theorem d_Sc_word_46 : decode m_Sc_word.2.1 46 = .ok (.baload, 1) := by decide +kernel
theorem d_Sc_word_47 : decode m_Sc_word.2.1 47 = .ok (.bipush 97, 2) := by decide +kernel
theorem d_Sc_word_49 : decode m_Sc_word.2.1 49 = .ok (.isub, 1) := by decide +kernel
theorem d_Sc_word_50 : decode m_Sc_word.2.1 50 = .ok (.iconst 1, 1) := by decide +kernel
theorem d_Sc_word_51 : decode m_Sc_word.2.1 51 = .ok (.iadd, 1) := by decide +kernel
theorem d_Sc_word_52 : decode m_Sc_word.2.1 52 = .ok (.i2l, 1) := by decide +kernel
theorem d_Sc_word_53 : decode m_Sc_word.2.1 53 = .ok (.ladd, 1) := by decide +kernel
theorem d_Sc_word_54 : decode m_Sc_word.2.1 54 = .ok (.lstore_n 1, 1) := by decide +kernel
theorem d_Sc_word_55 : decode m_Sc_word.2.1 55 = .ok (.aload_n 0, 1) := by decide +kernel
theorem d_Sc_word_56 : decode m_Sc_word.2.1 56 = .ok (.dup, 1) := by decide +kernel
theorem d_Sc_word_57 : decode m_Sc_word.2.1 57 = .ok (.getfield 68, 3) := by decide +kernel
theorem d_Sc_word_60 : decode m_Sc_word.2.1 60 = .ok (.iconst 1, 1) := by decide +kernel
theorem d_Sc_word_61 : decode m_Sc_word.2.1 61 = .ok (.iadd, 1) := by decide +kernel
theorem d_Sc_word_62 : decode m_Sc_word.2.1 62 = .ok (.putfield 68, 3) := by decide +kernel
theorem d_Sc_word_65 : decode m_Sc_word.2.1 65 = .ok (.goto (-58), 3) := by decide +kernel
theorem d_Sc_word_68 : decode m_Sc_word.2.1 68 = .ok (.aload_n 0, 1) := by decide +kernel
theorem d_Sc_word_69 : decode m_Sc_word.2.1 69 = .ok (.getfield 22, 3) := by decide +kernel
theorem d_Sc_word_72 : decode m_Sc_word.2.1 72 = .ok (.aload_n 0, 1) := by decide +kernel
theorem d_Sc_word_73 : decode m_Sc_word.2.1 73 = .ok (.getfield 65, 3) := by decide +kernel
theorem d_Sc_word_76 : decode m_Sc_word.2.1 76 = .ok (.lload_n 1, 1) := by decide +kernel
theorem d_Sc_word_77 : decode m_Sc_word.2.1 77 = .ok (.lastore, 1) := by decide +kernel
theorem d_Sc_word_78 : decode m_Sc_word.2.1 78 = .ok (.aload_n 0, 1) := by decide +kernel
theorem d_Sc_word_79 : decode m_Sc_word.2.1 79 = .ok (.getfield 68, 3) := by decide +kernel
theorem d_Sc_word_82 : decode m_Sc_word.2.1 82 = .ok (.iload_n 3, 1) := by decide +kernel
theorem d_Sc_word_83 : decode m_Sc_word.2.1 83 = .ok (.isub, 1) := by decide +kernel
theorem d_Sc_word_84 : decode m_Sc_word.2.1 84 = .ok (.bipush 8, 2) := by decide +kernel
theorem d_Sc_word_86 : decode m_Sc_word.2.1 86 = .ok (.if_icmp .le 6, 3) := by decide +kernel
theorem d_Sc_word_89 : decode m_Sc_word.2.1 89 = .ok (.bipush 47, 2) := by decide +kernel
theorem d_Sc_word_91 : decode m_Sc_word.2.1 91 = .ok (.ireturn, 1) := by decide +kernel
theorem d_Sc_word_92 : decode m_Sc_word.2.1 92 = .ok (.iconst 0, 1) := by decide +kernel
theorem d_Sc_word_93 : decode m_Sc_word.2.1 93 = .ok (.istore 4, 2) := by decide +kernel
theorem d_Sc_word_95 : decode m_Sc_word.2.1 95 = .ok (.iload 4, 2) := by decide +kernel
theorem d_Sc_word_97 : decode m_Sc_word.2.1 97 = .ok (.aload_n 0, 1) := by decide +kernel
theorem d_Sc_word_98 : decode m_Sc_word.2.1 98 = .ok (.getfield 44, 3) := by decide +kernel
theorem d_Sc_word_101 : decode m_Sc_word.2.1 101 = .ok (.arraylength, 1) := by decide +kernel
theorem d_Sc_word_102 : decode m_Sc_word.2.1 102 = .ok (.if_icmp .ge 27, 3) := by decide +kernel
theorem d_Sc_word_105 : decode m_Sc_word.2.1 105 = .ok (.aload_n 0, 1) := by decide +kernel
theorem d_Sc_word_106 : decode m_Sc_word.2.1 106 = .ok (.getfield 44, 3) := by decide +kernel
theorem d_Sc_word_109 : decode m_Sc_word.2.1 109 = .ok (.iload 4, 2) := by decide +kernel
theorem d_Sc_word_111 : decode m_Sc_word.2.1 111 = .ok (.laload, 1) := by decide +kernel
theorem d_Sc_word_112 : decode m_Sc_word.2.1 112 = .ok (.lload_n 1, 1) := by decide +kernel
theorem d_Sc_word_113 : decode m_Sc_word.2.1 113 = .ok (.lcmp, 1) := by decide +kernel
theorem d_Sc_word_114 : decode m_Sc_word.2.1 114 = .ok (.ifCond .ne 9, 3) := by decide +kernel
theorem d_Sc_word_117 : decode m_Sc_word.2.1 117 = .ok (.bipush 39, 2) := by decide +kernel
theorem d_Sc_word_119 : decode m_Sc_word.2.1 119 = .ok (.iload 4, 2) := by decide +kernel
theorem d_Sc_word_121 : decode m_Sc_word.2.1 121 = .ok (.iadd, 1) := by decide +kernel
theorem d_Sc_word_122 : decode m_Sc_word.2.1 122 = .ok (.ireturn, 1) := by decide +kernel
theorem d_Sc_word_123 : decode m_Sc_word.2.1 123 = .ok (.iinc 4 1, 3) := by decide +kernel
theorem d_Sc_word_126 : decode m_Sc_word.2.1 126 = .ok (.goto (-31), 3) := by decide +kernel
theorem d_Sc_word_129 : decode m_Sc_word.2.1 129 = .ok (.bipush 30, 2) := by decide +kernel
theorem d_Sc_word_131 : decode m_Sc_word.2.1 131 = .ok (.ireturn, 1) := by decide +kernel
theorem d_Sc_digits_0 : decode m_Sc_digits.2.1 0 = .ok (.iconst 0, 1) := by decide +kernel
theorem d_Sc_digits_1 : decode m_Sc_digits.2.1 1 = .ok (.istore_n 1, 1) := by decide +kernel
theorem d_Sc_digits_2 : decode m_Sc_digits.2.1 2 = .ok (.aload_n 0, 1) := by decide +kernel
theorem d_Sc_digits_3 : decode m_Sc_digits.2.1 3 = .ok (.getfield 68, 3) := by decide +kernel
theorem d_Sc_digits_6 : decode m_Sc_digits.2.1 6 = .ok (.aload_n 0, 1) := by decide +kernel
theorem d_Sc_digits_7 : decode m_Sc_digits.2.1 7 = .ok (.getfield 59, 3) := by decide +kernel
theorem d_Sc_digits_10 : decode m_Sc_digits.2.1 10 = .ok (.if_icmp .ge 55, 3) := by decide +kernel
theorem d_Sc_digits_13 : decode m_Sc_digits.2.1 13 = .ok (.aload_n 0, 1) := by decide +kernel
theorem d_Sc_digits_14 : decode m_Sc_digits.2.1 14 = .ok (.getfield 9, 3) := by decide +kernel
theorem d_Sc_digits_17 : decode m_Sc_digits.2.1 17 = .ok (.aload_n 0, 1) := by decide +kernel
theorem d_Sc_digits_18 : decode m_Sc_digits.2.1 18 = .ok (.getfield 68, 3) := by decide +kernel
theorem d_Sc_digits_21 : decode m_Sc_digits.2.1 21 = .ok (.baload, 1) := by decide +kernel
theorem d_Sc_digits_22 : decode m_Sc_digits.2.1 22 = .ok (.invokestatic 78, 3) := by decide +kernel
theorem d_Sc_digits_25 : decode m_Sc_digits.2.1 25 = .ok (.ifCond .eq 40, 3) := by decide +kernel
theorem d_Sc_digits_28 : decode m_Sc_digits.2.1 28 = .ok (.iload_n 1, 1) := by decide +kernel
theorem d_Sc_digits_29 : decode m_Sc_digits.2.1 29 = .ok (.bipush 10, 2) := by decide +kernel
theorem d_Sc_digits_31 : decode m_Sc_digits.2.1 31 = .ok (.imul, 1) := by decide +kernel
theorem d_Sc_digits_32 : decode m_Sc_digits.2.1 32 = .ok (.aload_n 0, 1) := by decide +kernel
theorem d_Sc_digits_33 : decode m_Sc_digits.2.1 33 = .ok (.getfield 9, 3) := by decide +kernel
theorem d_Sc_digits_36 : decode m_Sc_digits.2.1 36 = .ok (.aload_n 0, 1) := by decide +kernel
theorem d_Sc_digits_37 : decode m_Sc_digits.2.1 37 = .ok (.getfield 68, 3) := by decide +kernel
theorem d_Sc_digits_40 : decode m_Sc_digits.2.1 40 = .ok (.baload, 1) := by decide +kernel
theorem d_Sc_digits_41 : decode m_Sc_digits.2.1 41 = .ok (.bipush 48, 2) := by decide +kernel
theorem d_Sc_digits_43 : decode m_Sc_digits.2.1 43 = .ok (.isub, 1) := by decide +kernel
theorem d_Sc_digits_44 : decode m_Sc_digits.2.1 44 = .ok (.iadd, 1) := by decide +kernel
theorem d_Sc_digits_45 : decode m_Sc_digits.2.1 45 = .ok (.sipush 256, 3) := by decide +kernel
theorem d_Sc_digits_48 : decode m_Sc_digits.2.1 48 = .ok (.invokestatic 87, 3) := by decide +kernel
theorem d_Sc_digits_51 : decode m_Sc_digits.2.1 51 = .ok (.istore_n 1, 1) := by decide +kernel
theorem d_Sc_digits_52 : decode m_Sc_digits.2.1 52 = .ok (.aload_n 0, 1) := by decide +kernel
theorem d_Sc_digits_53 : decode m_Sc_digits.2.1 53 = .ok (.dup, 1) := by decide +kernel
theorem d_Sc_digits_54 : decode m_Sc_digits.2.1 54 = .ok (.getfield 68, 3) := by decide +kernel
theorem d_Sc_digits_57 : decode m_Sc_digits.2.1 57 = .ok (.iconst 1, 1) := by decide +kernel
theorem d_Sc_digits_58 : decode m_Sc_digits.2.1 58 = .ok (.iadd, 1) := by decide +kernel
theorem d_Sc_digits_59 : decode m_Sc_digits.2.1 59 = .ok (.putfield 68, 3) := by decide +kernel
theorem d_Sc_digits_62 : decode m_Sc_digits.2.1 62 = .ok (.goto (-60), 3) := by decide +kernel
theorem d_Sc_digits_65 : decode m_Sc_digits.2.1 65 = .ok (.aload_n 0, 1) := by decide +kernel
theorem d_Sc_digits_66 : decode m_Sc_digits.2.1 66 = .ok (.getfield 22, 3) := by decide +kernel
theorem d_Sc_digits_69 : decode m_Sc_digits.2.1 69 = .ok (.aload_n 0, 1) := by decide +kernel
theorem d_Sc_digits_70 : decode m_Sc_digits.2.1 70 = .ok (.getfield 65, 3) := by decide +kernel
theorem d_Sc_digits_73 : decode m_Sc_digits.2.1 73 = .ok (.iload_n 1, 1) := by decide +kernel
theorem d_Sc_digits_74 : decode m_Sc_digits.2.1 74 = .ok (.i2l, 1) := by decide +kernel
theorem d_Sc_digits_75 : decode m_Sc_digits.2.1 75 = .ok (.lastore, 1) := by decide +kernel
theorem d_Sc_digits_76 : decode m_Sc_digits.2.1 76 = .ok (.iload_n 1, 1) := by decide +kernel
theorem d_Sc_digits_77 : decode m_Sc_digits.2.1 77 = .ok (.sipush 255, 3) := by decide +kernel
theorem d_Sc_digits_80 : decode m_Sc_digits.2.1 80 = .ok (.if_icmp .le 8, 3) := by decide +kernel
theorem d_Sc_digits_83 : decode m_Sc_digits.2.1 83 = .ok (.bipush 47, 2) := by decide +kernel
theorem d_Sc_digits_85 : decode m_Sc_digits.2.1 85 = .ok (.goto 5, 3) := by decide +kernel
theorem d_Sc_digits_88 : decode m_Sc_digits.2.1 88 = .ok (.bipush 23, 2) := by decide +kernel
theorem d_Sc_digits_90 : decode m_Sc_digits.2.1 90 = .ok (.ireturn, 1) := by decide +kernel
theorem d_Sc_sign_0 : decode m_Sc_sign.2.1 0 = .ok (.aload_n 0, 1) := by decide +kernel
theorem d_Sc_sign_1 : decode m_Sc_sign.2.1 1 = .ok (.getfield 9, 3) := by decide +kernel
theorem d_Sc_sign_4 : decode m_Sc_sign.2.1 4 = .ok (.aload_n 0, 1) := by decide +kernel
theorem d_Sc_sign_5 : decode m_Sc_sign.2.1 5 = .ok (.getfield 68, 3) := by decide +kernel
theorem d_Sc_sign_8 : decode m_Sc_sign.2.1 8 = .ok (.baload, 1) := by decide +kernel
theorem d_Sc_sign_9 : decode m_Sc_sign.2.1 9 = .ok (.istore_n 1, 1) := by decide +kernel
theorem d_Sc_sign_10 : decode m_Sc_sign.2.1 10 = .ok (.aload_n 0, 1) := by decide +kernel
theorem d_Sc_sign_11 : decode m_Sc_sign.2.1 11 = .ok (.getfield 68, 3) := by decide +kernel
theorem d_Sc_sign_14 : decode m_Sc_sign.2.1 14 = .ok (.iconst 1, 1) := by decide +kernel
theorem d_Sc_sign_15 : decode m_Sc_sign.2.1 15 = .ok (.iadd, 1) := by decide +kernel
theorem d_Sc_sign_16 : decode m_Sc_sign.2.1 16 = .ok (.aload_n 0, 1) := by decide +kernel
theorem d_Sc_sign_17 : decode m_Sc_sign.2.1 17 = .ok (.getfield 59, 3) := by decide +kernel
theorem d_Sc_sign_20 : decode m_Sc_sign.2.1 20 = .ok (.if_icmp .ge 17, 3) := by decide +kernel
theorem d_Sc_sign_23 : decode m_Sc_sign.2.1 23 = .ok (.aload_n 0, 1) := by decide +kernel
theorem d_Sc_sign_24 : decode m_Sc_sign.2.1 24 = .ok (.getfield 9, 3) := by decide +kernel
theorem d_Sc_sign_27 : decode m_Sc_sign.2.1 27 = .ok (.aload_n 0, 1) := by decide +kernel
theorem d_Sc_sign_28 : decode m_Sc_sign.2.1 28 = .ok (.getfield 68, 3) := by decide +kernel
theorem d_Sc_sign_31 : decode m_Sc_sign.2.1 31 = .ok (.iconst 1, 1) := by decide +kernel
theorem d_Sc_sign_32 : decode m_Sc_sign.2.1 32 = .ok (.iadd, 1) := by decide +kernel
theorem d_Sc_sign_33 : decode m_Sc_sign.2.1 33 = .ok (.baload, 1) := by decide +kernel
theorem d_Sc_sign_34 : decode m_Sc_sign.2.1 34 = .ok (.goto 4, 3) := by decide +kernel
theorem d_Sc_sign_37 : decode m_Sc_sign.2.1 37 = .ok (.iconst 0, 1) := by decide +kernel
theorem d_Sc_sign_38 : decode m_Sc_sign.2.1 38 = .ok (.istore_n 2, 1) := by decide +kernel
theorem d_Sc_sign_39 : decode m_Sc_sign.2.1 39 = .ok (.iload_n 1, 1) := by decide +kernel
theorem d_Sc_sign_40 : decode m_Sc_sign.2.1 40 = .ok (.iload_n 2, 1) := by decide +kernel
theorem d_Sc_sign_41 : decode m_Sc_sign.2.1 41 = .ok (.invokestatic 93, 3) := by decide +kernel
theorem d_Sc_sign_44 : decode m_Sc_sign.2.1 44 = .ok (.istore_n 3, 1) := by decide +kernel
theorem d_Sc_sign_45 : decode m_Sc_sign.2.1 45 = .ok (.aload_n 0, 1) := by decide +kernel
theorem d_Sc_sign_46 : decode m_Sc_sign.2.1 46 = .ok (.dup, 1) := by decide +kernel
theorem d_Sc_sign_47 : decode m_Sc_sign.2.1 47 = .ok (.getfield 68, 3) := by decide +kernel
theorem d_Sc_sign_50 : decode m_Sc_sign.2.1 50 = .ok (.iload_n 3, 1) := by decide +kernel
theorem d_Sc_sign_51 : decode m_Sc_sign.2.1 51 = .ok (.bipush 47, 2) := by decide +kernel
theorem d_Sc_sign_53 : decode m_Sc_sign.2.1 53 = .ok (.if_icmp .ne 7, 3) := by decide +kernel
theorem d_Sc_sign_56 : decode m_Sc_sign.2.1 56 = .ok (.iconst 1, 1) := by decide +kernel
theorem d_Sc_sign_57 : decode m_Sc_sign.2.1 57 = .ok (.goto 4, 3) := by decide +kernel
theorem d_Sc_sign_60 : decode m_Sc_sign.2.1 60 = .ok (.iconst 2, 1) := by decide +kernel
theorem d_Sc_sign_61 : decode m_Sc_sign.2.1 61 = .ok (.iadd, 1) := by decide +kernel
theorem d_Sc_sign_62 : decode m_Sc_sign.2.1 62 = .ok (.putfield 68, 3) := by decide +kernel
theorem d_Sc_sign_65 : decode m_Sc_sign.2.1 65 = .ok (.iload_n 3, 1) := by decide +kernel
theorem d_Sc_sign_66 : decode m_Sc_sign.2.1 66 = .ok (.bipush 47, 2) := by decide +kernel
theorem d_Sc_sign_68 : decode m_Sc_sign.2.1 68 = .ok (.if_icmp .ne 10, 3) := by decide +kernel
theorem d_Sc_sign_71 : decode m_Sc_sign.2.1 71 = .ok (.iload_n 1, 1) := by decide +kernel
theorem d_Sc_sign_72 : decode m_Sc_sign.2.1 72 = .ok (.invokestatic 96, 3) := by decide +kernel
theorem d_Sc_sign_75 : decode m_Sc_sign.2.1 75 = .ok (.goto 4, 3) := by decide +kernel
theorem d_Sc_sign_78 : decode m_Sc_sign.2.1 78 = .ok (.iload_n 3, 1) := by decide +kernel
theorem d_Sc_sign_79 : decode m_Sc_sign.2.1 79 = .ok (.ireturn, 1) := by decide +kernel
theorem d_Sc_doubleSign_0 : decode m_Sc_doubleSign.2.1 0 = .ok (.iload_n 0, 1) := by decide +kernel
theorem d_Sc_doubleSign_1 : decode m_Sc_doubleSign.2.1 1 = .ok (.lookupswitch 163 #[(33, 73), (38, 137), (60, 87), (61, 59), (62, 112), (124, 150)], 59) := by decide +kernel
theorem d_Sc_doubleSign_60 : decode m_Sc_doubleSign.2.1 60 = .ok (.iload_n 1, 1) := by decide +kernel
theorem d_Sc_doubleSign_61 : decode m_Sc_doubleSign.2.1 61 = .ok (.bipush 61, 2) := by decide +kernel
theorem d_Sc_doubleSign_63 : decode m_Sc_doubleSign.2.1 63 = .ok (.if_icmp .ne 8, 3) := by decide +kernel
theorem d_Sc_doubleSign_66 : decode m_Sc_doubleSign.2.1 66 = .ok (.bipush 6, 2) := by decide +kernel
theorem d_Sc_doubleSign_68 : decode m_Sc_doubleSign.2.1 68 = .ok (.goto 5, 3) := by decide +kernel
theorem d_Sc_doubleSign_71 : decode m_Sc_doubleSign.2.1 71 = .ok (.bipush 47, 2) := by decide +kernel
theorem d_Sc_doubleSign_73 : decode m_Sc_doubleSign.2.1 73 = .ok (.ireturn, 1) := by decide +kernel
theorem d_Sc_doubleSign_74 : decode m_Sc_doubleSign.2.1 74 = .ok (.iload_n 1, 1) := by decide +kernel
theorem d_Sc_doubleSign_75 : decode m_Sc_doubleSign.2.1 75 = .ok (.bipush 61, 2) := by decide +kernel
theorem d_Sc_doubleSign_77 : decode m_Sc_doubleSign.2.1 77 = .ok (.if_icmp .ne 8, 3) := by decide +kernel
theorem d_Sc_doubleSign_80 : decode m_Sc_doubleSign.2.1 80 = .ok (.bipush 7, 2) := by decide +kernel
theorem d_Sc_doubleSign_82 : decode m_Sc_doubleSign.2.1 82 = .ok (.goto 5, 3) := by decide +kernel
theorem d_Sc_doubleSign_85 : decode m_Sc_doubleSign.2.1 85 = .ok (.bipush 47, 2) := by decide +kernel
theorem d_Sc_doubleSign_87 : decode m_Sc_doubleSign.2.1 87 = .ok (.ireturn, 1) := by decide +kernel
theorem d_Sc_doubleSign_88 : decode m_Sc_doubleSign.2.1 88 = .ok (.iload_n 1, 1) := by decide +kernel
theorem d_Sc_doubleSign_89 : decode m_Sc_doubleSign.2.1 89 = .ok (.bipush 61, 2) := by decide +kernel
theorem d_Sc_doubleSign_91 : decode m_Sc_doubleSign.2.1 91 = .ok (.if_icmp .ne 8, 3) := by decide +kernel
theorem d_Sc_doubleSign_94 : decode m_Sc_doubleSign.2.1 94 = .ok (.bipush 9, 2) := by decide +kernel
theorem d_Sc_doubleSign_96 : decode m_Sc_doubleSign.2.1 96 = .ok (.goto 16, 3) := by decide +kernel
theorem d_Sc_doubleSign_99 : decode m_Sc_doubleSign.2.1 99 = .ok (.iload_n 1, 1) := by decide +kernel
theorem d_Sc_doubleSign_100 : decode m_Sc_doubleSign.2.1 100 = .ok (.bipush 60, 2) := by decide +kernel
theorem d_Sc_doubleSign_102 : decode m_Sc_doubleSign.2.1 102 = .ok (.if_icmp .ne 8, 3) := by decide +kernel
theorem d_Sc_doubleSign_105 : decode m_Sc_doubleSign.2.1 105 = .ok (.bipush 12, 2) := by decide +kernel
theorem d_Sc_doubleSign_107 : decode m_Sc_doubleSign.2.1 107 = .ok (.goto 5, 3) := by decide +kernel
theorem d_Sc_doubleSign_110 : decode m_Sc_doubleSign.2.1 110 = .ok (.bipush 47, 2) := by decide +kernel
theorem d_Sc_doubleSign_112 : decode m_Sc_doubleSign.2.1 112 = .ok (.ireturn, 1) := by decide +kernel
theorem d_Sc_doubleSign_113 : decode m_Sc_doubleSign.2.1 113 = .ok (.iload_n 1, 1) := by decide +kernel
theorem d_Sc_doubleSign_114 : decode m_Sc_doubleSign.2.1 114 = .ok (.bipush 61, 2) := by decide +kernel
theorem d_Sc_doubleSign_116 : decode m_Sc_doubleSign.2.1 116 = .ok (.if_icmp .ne 8, 3) := by decide +kernel
theorem d_Sc_doubleSign_119 : decode m_Sc_doubleSign.2.1 119 = .ok (.bipush 11, 2) := by decide +kernel
theorem d_Sc_doubleSign_121 : decode m_Sc_doubleSign.2.1 121 = .ok (.goto 16, 3) := by decide +kernel
theorem d_Sc_doubleSign_124 : decode m_Sc_doubleSign.2.1 124 = .ok (.iload_n 1, 1) := by decide +kernel
theorem d_Sc_doubleSign_125 : decode m_Sc_doubleSign.2.1 125 = .ok (.bipush 62, 2) := by decide +kernel
theorem d_Sc_doubleSign_127 : decode m_Sc_doubleSign.2.1 127 = .ok (.if_icmp .ne 8, 3) := by decide +kernel
theorem d_Sc_doubleSign_130 : decode m_Sc_doubleSign.2.1 130 = .ok (.bipush 13, 2) := by decide +kernel
theorem d_Sc_doubleSign_132 : decode m_Sc_doubleSign.2.1 132 = .ok (.goto 5, 3) := by decide +kernel
theorem d_Sc_doubleSign_135 : decode m_Sc_doubleSign.2.1 135 = .ok (.bipush 47, 2) := by decide +kernel
theorem d_Sc_doubleSign_137 : decode m_Sc_doubleSign.2.1 137 = .ok (.ireturn, 1) := by decide +kernel
theorem d_Sc_doubleSign_138 : decode m_Sc_doubleSign.2.1 138 = .ok (.iload_n 1, 1) := by decide +kernel
theorem d_Sc_doubleSign_139 : decode m_Sc_doubleSign.2.1 139 = .ok (.bipush 38, 2) := by decide +kernel
theorem d_Sc_doubleSign_141 : decode m_Sc_doubleSign.2.1 141 = .ok (.if_icmp .ne 7, 3) := by decide +kernel
theorem d_Sc_doubleSign_144 : decode m_Sc_doubleSign.2.1 144 = .ok (.iconst 2, 1) := by decide +kernel
theorem d_Sc_doubleSign_145 : decode m_Sc_doubleSign.2.1 145 = .ok (.goto 5, 3) := by decide +kernel
theorem d_Sc_doubleSign_148 : decode m_Sc_doubleSign.2.1 148 = .ok (.bipush 47, 2) := by decide +kernel
theorem d_Sc_doubleSign_150 : decode m_Sc_doubleSign.2.1 150 = .ok (.ireturn, 1) := by decide +kernel
theorem d_Sc_doubleSign_151 : decode m_Sc_doubleSign.2.1 151 = .ok (.iload_n 1, 1) := by decide +kernel
theorem d_Sc_doubleSign_152 : decode m_Sc_doubleSign.2.1 152 = .ok (.bipush 124, 2) := by decide +kernel
theorem d_Sc_doubleSign_154 : decode m_Sc_doubleSign.2.1 154 = .ok (.if_icmp .ne 7, 3) := by decide +kernel
theorem d_Sc_doubleSign_157 : decode m_Sc_doubleSign.2.1 157 = .ok (.iconst 1, 1) := by decide +kernel
theorem d_Sc_doubleSign_158 : decode m_Sc_doubleSign.2.1 158 = .ok (.goto 5, 3) := by decide +kernel
theorem d_Sc_doubleSign_161 : decode m_Sc_doubleSign.2.1 161 = .ok (.bipush 47, 2) := by decide +kernel
theorem d_Sc_doubleSign_163 : decode m_Sc_doubleSign.2.1 163 = .ok (.ireturn, 1) := by decide +kernel
theorem d_Sc_doubleSign_164 : decode m_Sc_doubleSign.2.1 164 = .ok (.bipush 47, 2) := by decide +kernel
theorem d_Sc_doubleSign_166 : decode m_Sc_doubleSign.2.1 166 = .ok (.ireturn, 1) := by decide +kernel
theorem d_Sc_singleSign_0 : decode m_Sc_singleSign.2.1 0 = .ok (.iload_n 0, 1) := by decide +kernel
theorem d_Sc_singleSign_1 : decode m_Sc_singleSign.2.1 1 = .ok (.lookupswitch 121 #[(33, 115), (40, 97), (41, 100), (58, 94), (59, 91), (61, 109), (63, 112), (123, 103), (125, 106), (126, 118)], 91) := by decide +kernel
theorem d_Sc_singleSign_92 : decode m_Sc_singleSign.2.1 92 = .ok (.bipush 32, 2) := by decide +kernel
theorem d_Sc_singleSign_94 : decode m_Sc_singleSign.2.1 94 = .ok (.ireturn, 1) := by decide +kernel
theorem d_Sc_singleSign_95 : decode m_Sc_singleSign.2.1 95 = .ok (.bipush 33, 2) := by decide +kernel
theorem d_Sc_singleSign_97 : decode m_Sc_singleSign.2.1 97 = .ok (.ireturn, 1) := by decide +kernel
theorem d_Sc_singleSign_98 : decode m_Sc_singleSign.2.1 98 = .ok (.bipush 35, 2) := by decide +kernel
theorem d_Sc_singleSign_100 : decode m_Sc_singleSign.2.1 100 = .ok (.ireturn, 1) := by decide +kernel
theorem d_Sc_singleSign_101 : decode m_Sc_singleSign.2.1 101 = .ok (.bipush 36, 2) := by decide +kernel
theorem d_Sc_singleSign_103 : decode m_Sc_singleSign.2.1 103 = .ok (.ireturn, 1) := by decide +kernel
theorem d_Sc_singleSign_104 : decode m_Sc_singleSign.2.1 104 = .ok (.bipush 37, 2) := by decide +kernel
theorem d_Sc_singleSign_106 : decode m_Sc_singleSign.2.1 106 = .ok (.ireturn, 1) := by decide +kernel
theorem d_Sc_singleSign_107 : decode m_Sc_singleSign.2.1 107 = .ok (.bipush 38, 2) := by decide +kernel
theorem d_Sc_singleSign_109 : decode m_Sc_singleSign.2.1 109 = .ok (.ireturn, 1) := by decide +kernel
theorem d_Sc_singleSign_110 : decode m_Sc_singleSign.2.1 110 = .ok (.bipush 31, 2) := by decide +kernel
theorem d_Sc_singleSign_112 : decode m_Sc_singleSign.2.1 112 = .ok (.ireturn, 1) := by decide +kernel
theorem d_Sc_singleSign_113 : decode m_Sc_singleSign.2.1 113 = .ok (.bipush 34, 2) := by decide +kernel
theorem d_Sc_singleSign_115 : decode m_Sc_singleSign.2.1 115 = .ok (.ireturn, 1) := by decide +kernel
theorem d_Sc_singleSign_116 : decode m_Sc_singleSign.2.1 116 = .ok (.bipush 19, 2) := by decide +kernel
theorem d_Sc_singleSign_118 : decode m_Sc_singleSign.2.1 118 = .ok (.ireturn, 1) := by decide +kernel
theorem d_Sc_singleSign_119 : decode m_Sc_singleSign.2.1 119 = .ok (.bipush 20, 2) := by decide +kernel
theorem d_Sc_singleSign_121 : decode m_Sc_singleSign.2.1 121 = .ok (.ireturn, 1) := by decide +kernel
theorem d_Sc_singleSign_122 : decode m_Sc_singleSign.2.1 122 = .ok (.iload_n 0, 1) := by decide +kernel
theorem d_Sc_singleSign_123 : decode m_Sc_singleSign.2.1 123 = .ok (.invokestatic 100, 3) := by decide +kernel
theorem d_Sc_singleSign_126 : decode m_Sc_singleSign.2.1 126 = .ok (.ireturn, 1) := by decide +kernel
theorem d_Sc_operatorSign_0 : decode m_Sc_operatorSign.2.1 0 = .ok (.iload_n 0, 1) := by decide +kernel
theorem d_Sc_operatorSign_1 : decode m_Sc_operatorSign.2.1 1 = .ok (.lookupswitch 118 #[(37, 103), (38, 106), (42, 97), (43, 91), (45, 94), (47, 100), (60, 112), (62, 115), (94, 110), (124, 108)], 91) := by decide +kernel
theorem d_Sc_operatorSign_92 : decode m_Sc_operatorSign.2.1 92 = .ok (.bipush 14, 2) := by decide +kernel
theorem d_Sc_operatorSign_94 : decode m_Sc_operatorSign.2.1 94 = .ok (.ireturn, 1) := by decide +kernel
theorem d_Sc_operatorSign_95 : decode m_Sc_operatorSign.2.1 95 = .ok (.bipush 15, 2) := by decide +kernel
theorem d_Sc_operatorSign_97 : decode m_Sc_operatorSign.2.1 97 = .ok (.ireturn, 1) := by decide +kernel
theorem d_Sc_operatorSign_98 : decode m_Sc_operatorSign.2.1 98 = .ok (.bipush 16, 2) := by decide +kernel
theorem d_Sc_operatorSign_100 : decode m_Sc_operatorSign.2.1 100 = .ok (.ireturn, 1) := by decide +kernel
theorem d_Sc_operatorSign_101 : decode m_Sc_operatorSign.2.1 101 = .ok (.bipush 17, 2) := by decide +kernel
theorem d_Sc_operatorSign_103 : decode m_Sc_operatorSign.2.1 103 = .ok (.ireturn, 1) := by decide +kernel
theorem d_Sc_operatorSign_104 : decode m_Sc_operatorSign.2.1 104 = .ok (.bipush 18, 2) := by decide +kernel
theorem d_Sc_operatorSign_106 : decode m_Sc_operatorSign.2.1 106 = .ok (.ireturn, 1) := by decide +kernel
theorem d_Sc_operatorSign_107 : decode m_Sc_operatorSign.2.1 107 = .ok (.iconst 5, 1) := by decide +kernel
theorem d_Sc_operatorSign_108 : decode m_Sc_operatorSign.2.1 108 = .ok (.ireturn, 1) := by decide +kernel
theorem d_Sc_operatorSign_109 : decode m_Sc_operatorSign.2.1 109 = .ok (.iconst 3, 1) := by decide +kernel
theorem d_Sc_operatorSign_110 : decode m_Sc_operatorSign.2.1 110 = .ok (.ireturn, 1) := by decide +kernel
theorem d_Sc_operatorSign_111 : decode m_Sc_operatorSign.2.1 111 = .ok (.iconst 4, 1) := by decide +kernel
theorem d_Sc_operatorSign_112 : decode m_Sc_operatorSign.2.1 112 = .ok (.ireturn, 1) := by decide +kernel
theorem d_Sc_operatorSign_113 : decode m_Sc_operatorSign.2.1 113 = .ok (.bipush 8, 2) := by decide +kernel
theorem d_Sc_operatorSign_115 : decode m_Sc_operatorSign.2.1 115 = .ok (.ireturn, 1) := by decide +kernel
theorem d_Sc_operatorSign_116 : decode m_Sc_operatorSign.2.1 116 = .ok (.bipush 10, 2) := by decide +kernel
theorem d_Sc_operatorSign_118 : decode m_Sc_operatorSign.2.1 118 = .ok (.ireturn, 1) := by decide +kernel
theorem d_Sc_operatorSign_119 : decode m_Sc_operatorSign.2.1 119 = .ok (.bipush 47, 2) := by decide +kernel
theorem d_Sc_operatorSign_121 : decode m_Sc_operatorSign.2.1 121 = .ok (.ireturn, 1) := by decide +kernel
theorem d_Sc_advance_0 : decode m_Sc_advance.2.1 0 = .ok (.aload_n 0, 1) := by decide +kernel
theorem d_Sc_advance_1 : decode m_Sc_advance.2.1 1 = .ok (.getfield 62, 3) := by decide +kernel
theorem d_Sc_advance_4 : decode m_Sc_advance.2.1 4 = .ok (.aload_n 0, 1) := by decide +kernel
theorem d_Sc_advance_5 : decode m_Sc_advance.2.1 5 = .ok (.getfield 65, 3) := by decide +kernel
theorem d_Sc_advance_8 : decode m_Sc_advance.2.1 8 = .ok (.iconst 1, 1) := by decide +kernel
theorem d_Sc_advance_9 : decode m_Sc_advance.2.1 9 = .ok (.isub, 1) := by decide +kernel
theorem d_Sc_advance_10 : decode m_Sc_advance.2.1 10 = .ok (.if_icmp .ge 13, 3) := by decide +kernel
theorem d_Sc_advance_13 : decode m_Sc_advance.2.1 13 = .ok (.aload_n 0, 1) := by decide +kernel
theorem d_Sc_advance_14 : decode m_Sc_advance.2.1 14 = .ok (.dup, 1) := by decide +kernel
theorem d_Sc_advance_15 : decode m_Sc_advance.2.1 15 = .ok (.getfield 62, 3) := by decide +kernel
theorem d_Sc_advance_18 : decode m_Sc_advance.2.1 18 = .ok (.iconst 1, 1) := by decide +kernel
theorem d_Sc_advance_19 : decode m_Sc_advance.2.1 19 = .ok (.iadd, 1) := by decide +kernel
theorem d_Sc_advance_20 : decode m_Sc_advance.2.1 20 = .ok (.putfield 62, 3) := by decide +kernel
theorem d_Sc_advance_23 : decode m_Sc_advance.2.1 23 = .ok (.return_, 1) := by decide +kernel
theorem cd_Sc_isLetter : q_cd m_Sc_isLetter := ⟨by decide +kernel, List.mem_of_getElem? (i := 2) (by decide +kernel), Or.inl ⟨rfl, List.mem_of_getElem? (i := 780) (by decide +kernel)⟩⟩
theorem cS_Sc_71 : q_CS "ProofHall$Scanner" 71 m_Sc_isLetter 1 := ⟨⟨cd_Sc_isLetter, by decide, by decide, by decide, by decide +kernel⟩, Or.inl (List.mem_of_getElem? (i := 778) (by decide +kernel)), List.mem_of_getElem? (i := 779) (by decide +kernel)⟩
theorem cd_Sc_isDigit : q_cd m_Sc_isDigit := ⟨by decide +kernel, List.mem_of_getElem? (i := 2) (by decide +kernel), Or.inl ⟨rfl, List.mem_of_getElem? (i := 787) (by decide +kernel)⟩⟩
theorem cS_Sc_78 : q_CS "ProofHall$Scanner" 78 m_Sc_isDigit 1 := ⟨⟨cd_Sc_isDigit, by decide, by decide, by decide, by decide +kernel⟩, Or.inl (List.mem_of_getElem? (i := 785) (by decide +kernel)), List.mem_of_getElem? (i := 786) (by decide +kernel)⟩
theorem cd_Sc_sign : q_cd m_Sc_sign := ⟨by decide +kernel, List.mem_of_getElem? (i := 2) (by decide +kernel), Or.inl ⟨rfl, List.mem_of_getElem? (i := 798) (by decide +kernel)⟩⟩
theorem cV_Sc_84 : q_CV "ProofHall$Scanner" 84 1 m_Sc_sign 0 := ⟨⟨cd_Sc_sign, by decide, by decide, by decide, by decide +kernel⟩, Or.inl (List.mem_of_getElem? (i := 795) (by decide +kernel)), List.mem_of_getElem? (i := 797) (by decide +kernel), _, _, _, rfl, by decide +kernel⟩
theorem cd_Sc_digits : q_cd m_Sc_digits := ⟨by decide +kernel, List.mem_of_getElem? (i := 2) (by decide +kernel), Or.inl ⟨rfl, List.mem_of_getElem? (i := 791) (by decide +kernel)⟩⟩
theorem cV_Sc_81 : q_CV "ProofHall$Scanner" 81 1 m_Sc_digits 0 := ⟨⟨cd_Sc_digits, by decide, by decide, by decide, by decide +kernel⟩, Or.inl (List.mem_of_getElem? (i := 788) (by decide +kernel)), List.mem_of_getElem? (i := 790) (by decide +kernel), _, _, _, rfl, by decide +kernel⟩
theorem cd_Sc_word : q_cd m_Sc_word := ⟨by decide +kernel, List.mem_of_getElem? (i := 2) (by decide +kernel), Or.inl ⟨rfl, List.mem_of_getElem? (i := 784) (by decide +kernel)⟩⟩
theorem cV_Sc_75 : q_CV "ProofHall$Scanner" 75 1 m_Sc_word 0 := ⟨⟨cd_Sc_word, by decide, by decide, by decide, by decide +kernel⟩, Or.inl (List.mem_of_getElem? (i := 781) (by decide +kernel)), List.mem_of_getElem? (i := 783) (by decide +kernel), _, _, _, rfl, by decide +kernel⟩
theorem f_Sc_44 : q_FR "ProofHall$Scanner" 44 1 1 := ⟨"[J", by decide, ⟨_, _, _, rfl, by decide, rfl, Or.inl (List.mem_of_getElem? (i := 105) (by decide +kernel))⟩⟩
theorem cd_Sc_doubleSign : q_cd m_Sc_doubleSign := ⟨by decide +kernel, List.mem_of_getElem? (i := 2) (by decide +kernel), Or.inl ⟨rfl, List.mem_of_getElem? (i := 801) (by decide +kernel)⟩⟩
theorem cS_Sc_93 : q_CS "ProofHall$Scanner" 93 m_Sc_doubleSign 2 := ⟨⟨cd_Sc_doubleSign, by decide, by decide, by decide, by decide +kernel⟩, Or.inl (List.mem_of_getElem? (i := 799) (by decide +kernel)), List.mem_of_getElem? (i := 800) (by decide +kernel)⟩
theorem cd_Sc_singleSign : q_cd m_Sc_singleSign := ⟨by decide +kernel, List.mem_of_getElem? (i := 2) (by decide +kernel), Or.inl ⟨rfl, List.mem_of_getElem? (i := 804) (by decide +kernel)⟩⟩
theorem cS_Sc_96 : q_CS "ProofHall$Scanner" 96 m_Sc_singleSign 1 := ⟨⟨cd_Sc_singleSign, by decide, by decide, by decide, by decide +kernel⟩, Or.inl (List.mem_of_getElem? (i := 802) (by decide +kernel)), List.mem_of_getElem? (i := 803) (by decide +kernel)⟩
theorem cd_Sc_operatorSign : q_cd m_Sc_operatorSign := ⟨by decide +kernel, List.mem_of_getElem? (i := 2) (by decide +kernel), Or.inl ⟨rfl, List.mem_of_getElem? (i := 807) (by decide +kernel)⟩⟩
theorem cS_Sc_100 : q_CS "ProofHall$Scanner" 100 m_Sc_operatorSign 1 := ⟨⟨cd_Sc_operatorSign, by decide, by decide, by decide, by decide +kernel⟩, Or.inl (List.mem_of_getElem? (i := 805) (by decide +kernel)), List.mem_of_getElem? (i := 806) (by decide +kernel)⟩
set_option maxHeartbeats 2000000 in
theorem b_Sc_cut_0 {ω : q_W} {σ : q_H} {Q : q_R → q_H → Prop} {d mc ms : Nat}   (hE : q_E σ) (h : (J ω m_Sc_cut (d + 1) mc ms 0 0 17 [(0, .ref 2), (1, .int (zI 0))] [] (zs (zs (zs σ 2 3 0) 2 4 0) 2 8 0) Q)) : J ω m_Sc_cut (d + 1) mc ms 0 0 0 [(0, .ref 2)] [] σ Q := by
  refine j_aload_n d_Sc_cut_0 0 rfl ?_
  refine j_iconst (v := zI 0) d_Sc_cut_1 (by decide) ?_
  refine zj_putI (g_Sc_68 _) d_Sc_cut_2 (tg_2 hE) (q_okE hE (by decide)) ?_
  refine j_aload_n d_Sc_cut_5 0 rfl ?_
  refine j_iconst (v := zI 0) d_Sc_cut_6 (by decide) ?_
  refine zj_putI (g_Sc_65 _) d_Sc_cut_7 (tg_2 (zs_E hE)) (q_okE (zs_E hE) (by decide)) ?_
  refine j_aload_n d_Sc_cut_10 0 rfl ?_
  refine j_iconst (v := zI 0) d_Sc_cut_11 (by decide) ?_
  refine zj_putI (g_Sc_62 _) d_Sc_cut_12 (tg_2 (zs_E (zs_E hE))) (q_okE (zs_E (zs_E hE)) (by decide)) ?_
  refine j_iconst (v := zI 0) d_Sc_cut_15 (by decide) ?_
  refine j_istore_n (L' := [(1, .int (zI 0)), (0, .ref 2)]) d_Sc_cut_16 (by decide) rfl ?_
  exact j_sel [1, 0] rfl h
set_option maxHeartbeats 2000000 in
theorem b_Sc_cut_17 {ω : q_W} {σ : q_H} {Q : q_R → q_H → Prop} {d mc ms : Nat} {x1 : Int}  (hE : q_E σ) (h : inR x1 ∧ q_imp (x1 ≥ 4097) ((Q (.inl none) σ)) ∧ q_imp (x1 < 4097) ((J ω m_Sc_cut (d + 1) mc ms 0 0 24 [(0, .ref 2), (1, .int (zI x1))] [] σ Q))) : J ω m_Sc_cut (d + 1) mc ms 0 0 17 [(0, .ref 2), (1, .int (zI x1))] [] σ Q := by
  refine j_iload_n d_Sc_cut_17 1 rfl ?_
  refine j_sipush (v := zI 4097) d_Sc_cut_18 (by decide) ?_
  obtain ⟨r1, h⟩ := h
  obtain ⟨h1, h2⟩ := h
  refine zj_icmp_ge 205 d_Sc_cut_21 (by decide) r1 ⟨by decide, by decide⟩ (fun k2 => ?_) (fun k2 => ?_)
  · have h := h1 k2
    exact j_vret d_Sc_cut_205 rfl (Nat.zero_le _) (Nat.zero_le _) h
  · have h := h2 k2
    exact j_sel [0, 1] rfl h
set_option maxHeartbeats 2000000 in
theorem b_Sc_cut_24 {ω : q_W} {σ : q_H} {Q : q_R → q_H → Prop} {d mc ms : Nat} {x1 : Int}  (hE : q_E σ) (h : q_imp ((z σ 2 3) ≥ (z σ 2 2)) ((J ω m_Sc_cut (d + 1) mc ms 0 0 76 [(0, .ref 2), (1, .int (zI x1))] [] σ Q)) ∧ q_imp ((z σ 2 3) < (z σ 2 2)) ((0 ≤ (z σ 2 3) ∧ (z σ 2 3) < 4096) ∧ q_imp ((z σ 3 (z σ 2 3).toNat) = 32) ((J ω m_Sc_cut (d + 1) mc ms 0 0 24 [(0, .ref 2), (1, .int (zI x1))] [] (zs σ 2 3 ((z σ 2 3) + 1)) Q)) ∧ q_imp ((z σ 3 (z σ 2 3).toNat) ≠ 32) (q_imp ((z σ 3 (z σ 2 3).toNat) ≠ 10) ((J ω m_Sc_cut (d + 1) mc ms 0 0 76 [(0, .ref 2), (1, .int (zI x1))] [] σ Q)) ∧ q_imp ((z σ 3 (z σ 2 3).toNat) = 10) ((J ω m_Sc_cut (d + 1) mc ms 0 0 24 [(0, .ref 2), (1, .int (zI x1))] [] (zs σ 2 3 ((z σ 2 3) + 1)) Q))))) : J ω m_Sc_cut (d + 1) mc ms 0 0 24 [(0, .ref 2), (1, .int (zI x1))] [] σ Q := by
  refine j_aload_n d_Sc_cut_24 0 rfl ?_
  refine zj_getI (z σ 2 3) f_Sc_68 d_Sc_cut_25 (tg_2 hE) (q_okE hE (by decide)) (q_z _ _ _) ?_
  refine j_aload_n d_Sc_cut_28 0 rfl ?_
  refine zj_getI (z σ 2 2) f_Sc_59 d_Sc_cut_29 (tg_2 hE) (q_okE hE (by decide)) (q_z _ _ _) ?_
  obtain ⟨h1, h2⟩ := h
  refine zj_icmp_ge 76 d_Sc_cut_32 (by decide) (z_R _ _ _) (z_R _ _ _) (fun k3 => ?_) (fun k3 => ?_)
  · have h := h1 k3
    exact j_sel [0, 1] rfl h
  · have h := h2 k3
    refine j_aload_n d_Sc_cut_35 0 rfl ?_
    refine j_getR 3 f_Sc_9 d_Sc_cut_36 (tg_2 hE) (q_okE hE (by decide)) (rf_2_0 hE) (by decide) ?_
    refine j_aload_n d_Sc_cut_39 0 rfl ?_
    refine zj_getI (z σ 2 3) f_Sc_68 d_Sc_cut_40 (tg_2 hE) (q_okE hE (by decide)) (q_z _ _ _) ?_
    obtain ⟨c4, h⟩ := h
    refine zj_bald (z σ 3 (z σ 2 3).toNat) d_Sc_cut_43 (tg_3 hE) (q_okE hE (by decide)) c4 (by decide) (q_z _ _ _) ?_
    refine j_bipush (v := zI 32) d_Sc_cut_44 (by decide) ?_
    obtain ⟨h1, h2⟩ := h
    refine zj_icmp_eq 63 d_Sc_cut_46 (by decide) (z_R _ _ _) ⟨by decide, by decide⟩ (fun k5 => ?_) (fun k5 => ?_)
    · have h := h1 k5
      refine j_aload_n d_Sc_cut_63 0 rfl ?_
      refine j_dup d_Sc_cut_64 rfl ?_
      refine zj_getI (z σ 2 3) f_Sc_68 d_Sc_cut_65 (tg_2 hE) (q_okE hE (by decide)) (q_z _ _ _) ?_
      refine j_iconst (v := zI 1) d_Sc_cut_68 (by decide) ?_
      refine zj_iadd ((z σ 2 3) + 1) (by omega) d_Sc_cut_69 ?_
      refine zj_putI (g_Sc_68 _) d_Sc_cut_70 (tg_2 hE) (q_okE hE (by decide)) ?_
      refine j_goto 24 d_Sc_cut_73 (by decide) ?_
      exact j_sel [0, 1] rfl h
    · have h := h2 k5
      refine j_aload_n d_Sc_cut_49 0 rfl ?_
      refine j_getR 3 f_Sc_9 d_Sc_cut_50 (tg_2 hE) (q_okE hE (by decide)) (rf_2_0 hE) (by decide) ?_
      refine j_aload_n d_Sc_cut_53 0 rfl ?_
      refine zj_getI (z σ 2 3) f_Sc_68 d_Sc_cut_54 (tg_2 hE) (q_okE hE (by decide)) (q_z _ _ _) ?_
      refine zj_bald (z σ 3 (z σ 2 3).toNat) d_Sc_cut_57 (tg_3 hE) (q_okE hE (by decide)) c4 (by decide) (q_z _ _ _) ?_
      refine j_bipush (v := zI 10) d_Sc_cut_58 (by decide) ?_
      obtain ⟨h1, h2⟩ := h
      refine zj_icmp_ne 76 d_Sc_cut_60 (by decide) (z_R _ _ _) ⟨by decide, by decide⟩ (fun k6 => ?_) (fun k6 => ?_)
      · have h := h1 k6
        exact j_sel [0, 1] rfl h
      · have h := h2 k6
        refine j_aload_n d_Sc_cut_63 0 rfl ?_
        refine j_dup d_Sc_cut_64 rfl ?_
        refine zj_getI (z σ 2 3) f_Sc_68 d_Sc_cut_65 (tg_2 hE) (q_okE hE (by decide)) (q_z _ _ _) ?_
        refine j_iconst (v := zI 1) d_Sc_cut_68 (by decide) ?_
        refine zj_iadd ((z σ 2 3) + 1) (by omega) d_Sc_cut_69 ?_
        refine zj_putI (g_Sc_68 _) d_Sc_cut_70 (tg_2 hE) (q_okE hE (by decide)) ?_
        refine j_goto 24 d_Sc_cut_73 (by decide) ?_
        exact j_sel [0, 1] rfl h
set_option maxHeartbeats 2000000 in
theorem b_Sc_cut_76 {ω : q_W} {σ : q_H} {Q : q_R → q_H → Prop} {d mc ms : Nat} {x1 : Int}  (hE : q_E σ) (h : (0 ≤ (z σ 2 4) ∧ (z σ 2 4) < 4097) ∧ q_imp ((z σ 2 3) < (z σ 2 2)) ((0 ≤ (z σ 2 3) ∧ (z σ 2 3) < 4096) ∧ q_imp ((zIf (97 ≤ (z σ 3 (z σ 2 3).toNat) ∧ (z σ 3 (z σ 2 3).toNat) ≤ 122)) = 0) (q_imp ((zIf (48 ≤ (z σ 3 (z σ 2 3).toNat) ∧ (z σ 3 (z σ 2 3).toNat) ≤ 57)) = 0) ((J ω m_Sc_sign d 0 0 0 0 0 [(0, .ref 2)] [] (zt (zs σ 5 (z σ 2 4).toNat (z σ 2 3)) 6 (z σ 2 4).toNat 0) (q_ki (fun v τ => J ω m_Sc_cut (d + 1) mc ms 0 0 171 [(0, .ref 2), (1, .int (zI x1))] [.int (zI v), .int (zI (z σ 2 4)), .ref 4] τ Q)))) ∧ q_imp ((zIf (48 ≤ (z σ 3 (z σ 2 3).toNat) ∧ (z σ 3 (z σ 2 3).toNat) ≤ 57)) ≠ 0) ((J ω m_Sc_digits d 0 0 0 0 0 [(0, .ref 2)] [] (zt (zs σ 5 (z σ 2 4).toNat (z σ 2 3)) 6 (z σ 2 4).toNat 0) (q_ki (fun v τ => J ω m_Sc_cut (d + 1) mc ms 0 0 164 [(0, .ref 2), (1, .int (zI x1))] [.int (zI v), .int (zI (z σ 2 4)), .ref 4] τ Q))))) ∧ q_imp ((zIf (97 ≤ (z σ 3 (z σ 2 3).toNat) ∧ (z σ 3 (z σ 2 3).toNat) ≤ 122)) ≠ 0) ((J ω m_Sc_word d 0 0 0 0 0 [(0, .ref 2)] [] (zt (zs σ 5 (z σ 2 4).toNat (z σ 2 3)) 6 (z σ 2 4).toNat 0) (q_ki (fun v τ => J ω m_Sc_cut (d + 1) mc ms 0 0 142 [(0, .ref 2), (1, .int (zI x1))] [.int (zI v), .int (zI (z σ 2 4)), .ref 4] τ Q))))) ∧ q_imp ((z σ 2 3) ≥ (z σ 2 2)) ((J ω m_Sc_cut (d + 1) mc ms 0 0 171 [(0, .ref 2), (1, .int (zI x1))] [.int (zI 46), .int (zI (z σ 2 4)), .ref 4] (zt (zs σ 5 (z σ 2 4).toNat (z σ 2 3)) 6 (z σ 2 4).toNat 0) Q))) : J ω m_Sc_cut (d + 1) mc ms 0 0 76 [(0, .ref 2), (1, .int (zI x1))] [] σ Q := by
  refine j_aload_n d_Sc_cut_76 0 rfl ?_
  refine j_getR 5 f_Sc_19 d_Sc_cut_77 (tg_2 hE) (q_okE hE (by decide)) (rf_2_6 hE) (by decide) ?_
  refine j_aload_n d_Sc_cut_80 0 rfl ?_
  refine zj_getI (z σ 2 4) f_Sc_65 d_Sc_cut_81 (tg_2 hE) (q_okE hE (by decide)) (q_z _ _ _) ?_
  refine j_aload_n d_Sc_cut_84 0 rfl ?_
  refine zj_getI (z σ 2 3) f_Sc_68 d_Sc_cut_85 (tg_2 hE) (q_okE hE (by decide)) (q_z _ _ _) ?_
  obtain ⟨c7, h⟩ := h
  refine zj_iast d_Sc_cut_88 (tg_5 hE) (q_okE hE (by decide)) c7 (by decide) ?_
  refine j_aload_n d_Sc_cut_89 0 rfl ?_
  refine j_getR 6 f_Sc_22 d_Sc_cut_90 (tg_2 (zs_E hE)) (q_okE (zs_E hE) (by decide)) (rf_2_7 (zs_E hE)) (by decide) ?_
  refine j_aload_n d_Sc_cut_93 0 rfl ?_
  refine zj_getI (z σ 2 4) f_Sc_65 d_Sc_cut_94 (tg_2 (zs_E hE)) (q_okE (zs_E hE) (by decide)) (Eq.trans (qs_o (by decide)) (q_z _ _ _)) ?_
  refine j_lconst (v := 0) d_Sc_cut_97 (by decide) ?_
  refine zj_last d_Sc_cut_98 (tg_6 (zs_E hE)) (q_okE (zs_E hE) (by decide)) c7 (by decide) ?_
  refine j_aload_n d_Sc_cut_99 0 rfl ?_
  refine j_getR 4 f_Sc_15 d_Sc_cut_100 (tg_2 (zt_E (zs_E hE))) (q_okE (zt_E (zs_E hE)) (by decide)) (rf_2_5 (zt_E (zs_E hE))) (by decide) ?_
  refine j_aload_n d_Sc_cut_103 0 rfl ?_
  refine zj_getI (z σ 2 4) f_Sc_65 d_Sc_cut_104 (tg_2 (zt_E (zs_E hE))) (q_okE (zt_E (zs_E hE)) (by decide)) (Eq.trans (qt_i) (Eq.trans (qs_o (by decide)) (q_z _ _ _))) ?_
  refine j_aload_n d_Sc_cut_107 0 rfl ?_
  refine zj_getI (z σ 2 3) f_Sc_68 d_Sc_cut_108 (tg_2 (zt_E (zs_E hE))) (q_okE (zt_E (zs_E hE)) (by decide)) (Eq.trans (qt_i) (Eq.trans (qs_o (by decide)) (q_z _ _ _))) ?_
  refine j_aload_n d_Sc_cut_111 0 rfl ?_
  refine zj_getI (z σ 2 2) f_Sc_59 d_Sc_cut_112 (tg_2 (zt_E (zs_E hE))) (q_okE (zt_E (zs_E hE)) (by decide)) (Eq.trans (qt_i) (Eq.trans (qs_o (by decide)) (q_z _ _ _))) ?_
  obtain ⟨h1, h2⟩ := h
  refine zj_icmp_lt 123 d_Sc_cut_115 (by decide) (z_R _ _ _) (z_R _ _ _) (fun k8 => ?_) (fun k8 => ?_)
  · have h := h1 k8
    refine j_aload_n d_Sc_cut_123 0 rfl ?_
    refine j_getR 3 f_Sc_9 d_Sc_cut_124 (tg_2 (zt_E (zs_E hE))) (q_okE (zt_E (zs_E hE)) (by decide)) (rf_2_0 (zt_E (zs_E hE))) (by decide) ?_
    refine j_aload_n d_Sc_cut_127 0 rfl ?_
    refine zj_getI (z σ 2 3) f_Sc_68 d_Sc_cut_128 (tg_2 (zt_E (zs_E hE))) (q_okE (zt_E (zs_E hE)) (by decide)) (Eq.trans (qt_i) (Eq.trans (qs_o (by decide)) (q_z _ _ _))) ?_
    obtain ⟨c9, h⟩ := h
    refine zj_bald (z σ 3 (z σ 2 3).toNat) d_Sc_cut_131 (tg_3 (zt_E (zs_E hE))) (q_okE (zt_E (zs_E hE)) (by decide)) c9 (by decide) (Eq.trans (qt_i) (Eq.trans (qs_o (by decide)) (q_z _ _ _))) ?_
    refine j_callS m_Sc_isLetter [.int (zI (z σ 3 (z σ 2 3).toNat))] [.int (zI (z σ 2 4)), .ref 4] 0 0 0 cS_Sc_71 d_Sc_cut_132 rfl rfl (Nat.le_of_ble_eq_true rfl) (Nat.succ_le_succ (Nat.zero_le _)) (Nat.le_of_ble_eq_true rfl) (Nat.zero_le _) (Nat.zero_le _) (c_Sc_isLetter (zt_E (zs_E hE)) (z_R _ _ _)) (fun v τ h => ?_) (fun x τ h => absurd h.1 (by simp))
    obtain ⟨e1, e2⟩ := h; cases e1; rw [e2]
    obtain ⟨h1, h2⟩ := h
    refine zj_if_eq 145 d_Sc_cut_135 (by decide) (zIf_R _) (fun k10 => ?_) (fun k10 => ?_)
    · have h := h1 k10
      refine j_aload_n d_Sc_cut_145 0 rfl ?_
      refine j_getR 3 f_Sc_9 d_Sc_cut_146 (tg_2 (zt_E (zs_E hE))) (q_okE (zt_E (zs_E hE)) (by decide)) (rf_2_0 (zt_E (zs_E hE))) (by decide) ?_
      refine j_aload_n d_Sc_cut_149 0 rfl ?_
      refine zj_getI (z σ 2 3) f_Sc_68 d_Sc_cut_150 (tg_2 (zt_E (zs_E hE))) (q_okE (zt_E (zs_E hE)) (by decide)) (Eq.trans (qt_i) (Eq.trans (qs_o (by decide)) (q_z _ _ _))) ?_
      refine zj_bald (z σ 3 (z σ 2 3).toNat) d_Sc_cut_153 (tg_3 (zt_E (zs_E hE))) (q_okE (zt_E (zs_E hE)) (by decide)) c9 (by decide) (Eq.trans (qt_i) (Eq.trans (qs_o (by decide)) (q_z _ _ _))) ?_
      refine j_callS m_Sc_isDigit [.int (zI (z σ 3 (z σ 2 3).toNat))] [.int (zI (z σ 2 4)), .ref 4] 0 0 0 cS_Sc_78 d_Sc_cut_154 rfl rfl (Nat.le_of_ble_eq_true rfl) (Nat.succ_le_succ (Nat.zero_le _)) (Nat.le_of_ble_eq_true rfl) (Nat.zero_le _) (Nat.zero_le _) (c_Sc_isDigit (zt_E (zs_E hE)) (z_R _ _ _)) (fun v τ h => ?_) (fun x τ h => absurd h.1 (by simp))
      obtain ⟨e1, e2⟩ := h; cases e1; rw [e2]
      obtain ⟨h1, h2⟩ := h
      refine zj_if_eq 167 d_Sc_cut_157 (by decide) (zIf_R _) (fun k11 => ?_) (fun k11 => ?_)
      · have h := h1 k11
        refine j_aload_n d_Sc_cut_167 0 rfl ?_
        refine j_callV m_Sc_sign [] [.int (zI (z σ 2 4)), .ref 4] d 0 0 cV_Sc_84 d_Sc_cut_168 rfl rfl (tg_2 (zt_E (zs_E hE))) (q_okE (zt_E (zs_E hE)) (by decide)) (Nat.le_of_ble_eq_true rfl) (Nat.le_refl _) (Nat.le_of_ble_eq_true rfl) (Nat.zero_le _) (Nat.zero_le _) h (fun v τ h => ?_) (fun x τ h => ?_)
        · obtain ⟨v, hv, e1, h⟩ := h; cases e1; exact j_sel [0, 1] rfl h
        · obtain ⟨v, hv, e1, h⟩ := h; cases e1
      · have h := h2 k11
        refine j_aload_n d_Sc_cut_160 0 rfl ?_
        refine j_callV m_Sc_digits [] [.int (zI (z σ 2 4)), .ref 4] d 0 0 cV_Sc_81 d_Sc_cut_161 rfl rfl (tg_2 (zt_E (zs_E hE))) (q_okE (zt_E (zs_E hE)) (by decide)) (Nat.le_of_ble_eq_true rfl) (Nat.le_refl _) (Nat.le_of_ble_eq_true rfl) (Nat.zero_le _) (Nat.zero_le _) h (fun v τ h => ?_) (fun x τ h => ?_)
        · obtain ⟨v, hv, e1, h⟩ := h; cases e1; exact j_sel [0, 1] rfl h
        · obtain ⟨v, hv, e1, h⟩ := h; cases e1
    · have h := h2 k10
      refine j_aload_n d_Sc_cut_138 0 rfl ?_
      refine j_callV m_Sc_word [] [.int (zI (z σ 2 4)), .ref 4] d 0 0 cV_Sc_75 d_Sc_cut_139 rfl rfl (tg_2 (zt_E (zs_E hE))) (q_okE (zt_E (zs_E hE)) (by decide)) (Nat.le_of_ble_eq_true rfl) (Nat.le_refl _) (Nat.le_of_ble_eq_true rfl) (Nat.zero_le _) (Nat.zero_le _) h (fun v τ h => ?_) (fun x τ h => ?_)
      · obtain ⟨v, hv, e1, h⟩ := h; cases e1; exact j_sel [0, 1] rfl h
      · obtain ⟨v, hv, e1, h⟩ := h; cases e1
  · have h := h2 k8
    refine j_bipush (v := zI 46) d_Sc_cut_118 (by decide) ?_
    refine j_goto 171 d_Sc_cut_120 (by decide) ?_
    exact j_sel [0, 1] rfl h
set_option maxHeartbeats 2000000 in
theorem b_Sc_cut_171 {ω : q_W} {σ : q_H} {Q : q_R → q_H → Prop} {d mc ms : Nat} {x1 : Int} {y0 : Int} {y1 : Int}  (hE : q_E σ) (h : (0 ≤ y1 ∧ y1 < 4097) ∧ (0 ≤ (z σ 2 4) ∧ (z σ 2 4) < 4097) ∧ q_imp ((z (zs σ 4 y1.toNat y0) 4 (z σ 2 4).toNat) ≠ 46) ((J ω m_Sc_cut (d + 1) mc ms 0 0 17 [(0, .ref 2), (1, .int (zI (x1 + 1)))] [] (zs (zs σ 4 y1.toNat y0) 2 4 ((z σ 2 4) + 1)) Q)) ∧ q_imp ((z (zs σ 4 y1.toNat y0) 4 (z σ 2 4).toNat) = 46) ((Q (.inl none) (zs (zs σ 4 y1.toNat y0) 2 4 ((z σ 2 4) + 1))))) : J ω m_Sc_cut (d + 1) mc ms 0 0 171 [(0, .ref 2), (1, .int (zI x1))] [.int (zI y0), .int (zI y1), .ref 4] σ Q := by
  obtain ⟨c12, h⟩ := h
  refine zj_iast d_Sc_cut_171 (tg_4 hE) (q_okE hE (by decide)) c12 (by decide) ?_
  refine j_aload_n d_Sc_cut_172 0 rfl ?_
  refine j_dup d_Sc_cut_173 rfl ?_
  refine zj_getI (z σ 2 4) f_Sc_65 d_Sc_cut_174 (tg_2 (zs_E hE)) (q_okE (zs_E hE) (by decide)) (Eq.trans (qs_o (by decide)) (q_z _ _ _)) ?_
  refine j_iconst (v := zI 1) d_Sc_cut_177 (by decide) ?_
  refine zj_iadd ((z σ 2 4) + 1) (by omega) d_Sc_cut_178 ?_
  refine zj_putI (g_Sc_65 _) d_Sc_cut_179 (tg_2 (zs_E hE)) (q_okE (zs_E hE) (by decide)) ?_
  refine j_aload_n d_Sc_cut_182 0 rfl ?_
  refine j_getR 4 f_Sc_15 d_Sc_cut_183 (tg_2 (zs_E (zs_E hE))) (q_okE (zs_E (zs_E hE)) (by decide)) (rf_2_5 (zs_E (zs_E hE))) (by decide) ?_
  refine j_aload_n d_Sc_cut_186 0 rfl ?_
  refine zj_getI ((z σ 2 4) + 1) f_Sc_65 d_Sc_cut_187 (tg_2 (zs_E (zs_E hE))) (q_okE (zs_E (zs_E hE)) (by decide)) (qs_s) ?_
  refine j_iconst (v := zI 1) d_Sc_cut_190 (by decide) ?_
  refine zj_isub (z σ 2 4) (by omega) d_Sc_cut_191 ?_
  obtain ⟨c13, h⟩ := h
  refine zj_iald (z (zs σ 4 y1.toNat y0) 4 (z σ 2 4).toNat) d_Sc_cut_192 (tg_4 (zs_E (zs_E hE))) (q_okE (zs_E (zs_E hE)) (by decide)) c13 (by decide) (Eq.trans (qs_o (by decide)) (q_z _ _ _)) ?_
  refine j_bipush (v := zI 46) d_Sc_cut_193 (by decide) ?_
  obtain ⟨h1, h2⟩ := h
  refine zj_icmp_ne 199 d_Sc_cut_195 (by decide) (z_R _ _ _) ⟨by decide, by decide⟩ (fun k14 => ?_) (fun k14 => ?_)
  · have h := h1 k14
    refine zj_iinc (L' := [(1, .int (zI (x1 + 1))), (0, .ref 2)]) (x1 + 1) d_Sc_cut_199 1 rfl (by omega) (by decide) rfl ?_
    refine j_goto 17 d_Sc_cut_202 (by decide) ?_
    exact j_sel [1, 0] rfl h
  · have h := h2 k14
    exact j_vret d_Sc_cut_198 rfl (Nat.zero_le _) (Nat.zero_le _) h
set_option maxHeartbeats 2000000 in
theorem b_Sc_cut_164 {ω : q_W} {σ : q_H} {Q : q_R → q_H → Prop} {d mc ms : Nat} {x1 : Int} {y0 : Int} {y1 : Int}  (hE : q_E σ) (h : (J ω m_Sc_cut (d + 1) mc ms 0 0 171 [(0, .ref 2), (1, .int (zI x1))] [.int (zI y0), .int (zI y1), .ref 4] σ Q)) : J ω m_Sc_cut (d + 1) mc ms 0 0 164 [(0, .ref 2), (1, .int (zI x1))] [.int (zI y0), .int (zI y1), .ref 4] σ Q := by
  refine j_goto 171 d_Sc_cut_164 (by decide) ?_
  exact j_sel [0, 1] rfl h
set_option maxHeartbeats 2000000 in
theorem b_Sc_cut_142 {ω : q_W} {σ : q_H} {Q : q_R → q_H → Prop} {d mc ms : Nat} {x1 : Int} {y0 : Int} {y1 : Int}  (hE : q_E σ) (h : (J ω m_Sc_cut (d + 1) mc ms 0 0 171 [(0, .ref 2), (1, .int (zI x1))] [.int (zI y0), .int (zI y1), .ref 4] σ Q)) : J ω m_Sc_cut (d + 1) mc ms 0 0 142 [(0, .ref 2), (1, .int (zI x1))] [.int (zI y0), .int (zI y1), .ref 4] σ Q := by
  refine j_goto 171 d_Sc_cut_142 (by decide) ?_
  exact j_sel [0, 1] rfl h
set_option maxHeartbeats 2000000 in
theorem b_Sc_word_0 {ω : q_W} {σ : q_H} {Q : q_R → q_H → Prop} {d mc ms : Nat}   (hE : q_E σ) (h : (J ω m_Sc_word (d + 1) mc ms 0 0 7 [(0, .ref 2), (1, .long 0), (3, .int (zI (z σ 2 3)))] [] σ Q)) : J ω m_Sc_word (d + 1) mc ms 0 0 0 [(0, .ref 2)] [] σ Q := by
  refine j_lconst (v := 0) d_Sc_word_0 (by decide) ?_
  refine j_lstore_n (L' := [(1, .long 0), (0, .ref 2)]) d_Sc_word_1 (by decide) rfl ?_
  refine j_aload_n d_Sc_word_2 1 rfl ?_
  refine zj_getI (z σ 2 3) f_Sc_68 d_Sc_word_3 (tg_2 hE) (q_okE hE (by decide)) (q_z _ _ _) ?_
  refine j_istore_n (L' := [(3, .int (zI (z σ 2 3))), (1, .long 0), (0, .ref 2)]) d_Sc_word_6 (by decide) rfl ?_
  exact j_sel [2, 1, 0] rfl h
set_option maxHeartbeats 2000000 in
theorem b_Sc_word_7 {ω : q_W} {σ : q_H} {Q : q_R → q_H → Prop} {d mc ms : Nat} {x1 : Int64} {x3 : Int}  (hE : q_E σ) (h : q_imp ((z σ 2 3) ≥ (z σ 2 2)) ((J ω m_Sc_word (d + 1) mc ms 0 0 68 [(0, .ref 2), (1, .long x1), (3, .int (zI x3))] [] σ Q)) ∧ q_imp ((z σ 2 3) < (z σ 2 2)) ((0 ≤ (z σ 2 3) ∧ (z σ 2 3) < 4096) ∧ q_imp ((zIf (97 ≤ (z σ 3 (z σ 2 3).toNat) ∧ (z σ 3 (z σ 2 3).toNat) ≤ 122)) = 0) ((J ω m_Sc_word (d + 1) mc ms 0 0 68 [(0, .ref 2), (1, .long x1), (3, .int (zI x3))] [] σ Q)) ∧ q_imp ((zIf (97 ≤ (z σ 3 (z σ 2 3).toNat) ∧ (z σ 3 (z σ 2 3).toNat) ≤ 122)) ≠ 0) ((J ω m_Sc_word (d + 1) mc ms 0 0 7 [(0, .ref 2), (1, .long ((x1 * 32) + (zI ((z σ 3 (z σ 2 3).toNat) - 96)).toInt64)), (3, .int (zI x3))] [] (zs σ 2 3 ((z σ 2 3) + 1)) Q)))) : J ω m_Sc_word (d + 1) mc ms 0 0 7 [(0, .ref 2), (1, .long x1), (3, .int (zI x3))] [] σ Q := by
  refine j_aload_n d_Sc_word_7 0 rfl ?_
  refine zj_getI (z σ 2 3) f_Sc_68 d_Sc_word_8 (tg_2 hE) (q_okE hE (by decide)) (q_z _ _ _) ?_
  refine j_aload_n d_Sc_word_11 0 rfl ?_
  refine zj_getI (z σ 2 2) f_Sc_59 d_Sc_word_12 (tg_2 hE) (q_okE hE (by decide)) (q_z _ _ _) ?_
  obtain ⟨h1, h2⟩ := h
  refine zj_icmp_ge 68 d_Sc_word_15 (by decide) (z_R _ _ _) (z_R _ _ _) (fun k1 => ?_) (fun k1 => ?_)
  · have h := h1 k1
    exact j_sel [0, 1, 2] rfl h
  · have h := h2 k1
    refine j_aload_n d_Sc_word_18 0 rfl ?_
    refine j_getR 3 f_Sc_9 d_Sc_word_19 (tg_2 hE) (q_okE hE (by decide)) (rf_2_0 hE) (by decide) ?_
    refine j_aload_n d_Sc_word_22 0 rfl ?_
    refine zj_getI (z σ 2 3) f_Sc_68 d_Sc_word_23 (tg_2 hE) (q_okE hE (by decide)) (q_z _ _ _) ?_
    obtain ⟨c2, h⟩ := h
    refine zj_bald (z σ 3 (z σ 2 3).toNat) d_Sc_word_26 (tg_3 hE) (q_okE hE (by decide)) c2 (by decide) (q_z _ _ _) ?_
    refine j_callS m_Sc_isLetter [.int (zI (z σ 3 (z σ 2 3).toNat))] [] 0 0 0 cS_Sc_71 d_Sc_word_27 rfl rfl (Nat.le_of_ble_eq_true rfl) (Nat.succ_le_succ (Nat.zero_le _)) (Nat.le_of_ble_eq_true rfl) (Nat.zero_le _) (Nat.zero_le _) (c_Sc_isLetter hE (z_R _ _ _)) (fun v τ h => ?_) (fun x τ h => absurd h.1 (by simp))
    obtain ⟨e1, e2⟩ := h; cases e1; rw [e2]
    obtain ⟨h1, h2⟩ := h
    refine zj_if_eq 68 d_Sc_word_30 (by decide) (zIf_R _) (fun k3 => ?_) (fun k3 => ?_)
    · have h := h1 k3
      exact j_sel [0, 1, 2] rfl h
    · have h := h2 k3
      refine j_lload_n d_Sc_word_33 1 rfl ?_
      refine j_ldc2 (v := 32) (List.mem_of_getElem? (i := 59) (by decide +kernel)) d_Sc_word_34 ?_
      refine j_lmul d_Sc_word_37 ?_
      refine j_aload_n d_Sc_word_38 0 rfl ?_
      refine j_getR 3 f_Sc_9 d_Sc_word_39 (tg_2 hE) (q_okE hE (by decide)) (rf_2_0 hE) (by decide) ?_
      refine j_aload_n d_Sc_word_42 0 rfl ?_
      refine zj_getI (z σ 2 3) f_Sc_68 d_Sc_word_43 (tg_2 hE) (q_okE hE (by decide)) (q_z _ _ _) ?_
      refine zj_bald (z σ 3 (z σ 2 3).toNat) d_Sc_word_46 (tg_3 hE) (q_okE hE (by decide)) c2 (by decide) (q_z _ _ _) ?_
      refine j_bipush (v := zI 97) d_Sc_word_47 (by decide) ?_
      refine zj_isub ((z σ 3 (z σ 2 3).toNat) - 97) (by omega) d_Sc_word_49 ?_
      refine j_iconst (v := zI 1) d_Sc_word_50 (by decide) ?_
      refine zj_iadd ((z σ 3 (z σ 2 3).toNat) - 96) (by omega) d_Sc_word_51 ?_
      refine j_i2l d_Sc_word_52 ?_
      refine j_ladd d_Sc_word_53 ?_
      refine j_lstore_n (L' := [(1, .long ((x1 * 32) + (zI ((z σ 3 (z σ 2 3).toNat) - 96)).toInt64)), (0, .ref 2), (3, .int (zI x3))]) d_Sc_word_54 (by decide) rfl ?_
      refine j_aload_n d_Sc_word_55 1 rfl ?_
      refine j_dup d_Sc_word_56 rfl ?_
      refine zj_getI (z σ 2 3) f_Sc_68 d_Sc_word_57 (tg_2 hE) (q_okE hE (by decide)) (q_z _ _ _) ?_
      refine j_iconst (v := zI 1) d_Sc_word_60 (by decide) ?_
      refine zj_iadd ((z σ 2 3) + 1) (by omega) d_Sc_word_61 ?_
      refine zj_putI (g_Sc_68 _) d_Sc_word_62 (tg_2 hE) (q_okE hE (by decide)) ?_
      refine j_goto 7 d_Sc_word_65 (by decide) ?_
      exact j_sel [1, 0, 2] rfl h
set_option maxHeartbeats 2000000 in
theorem b_Sc_word_68 {ω : q_W} {σ : q_H} {Q : q_R → q_H → Prop} {d mc ms : Nat} {x1 : Int64} {x3 : Int}  (hE : q_E σ) (h : (0 ≤ (z σ 2 4) ∧ (z σ 2 4) < 4097) ∧ inR ((z σ 2 3) - x3) ∧ q_imp (((z σ 2 3) - x3) ≤ 8) ((J ω m_Sc_word (d + 1) mc ms 0 0 95 [(0, .ref 2), (1, .long x1), (4, .int (zI 0))] [] (zt σ 6 (z σ 2 4).toNat x1) Q)) ∧ q_imp (((z σ 2 3) - x3) > 8) ((Q (.inl (some (.int (zI 47)))) (zt σ 6 (z σ 2 4).toNat x1)))) : J ω m_Sc_word (d + 1) mc ms 0 0 68 [(0, .ref 2), (1, .long x1), (3, .int (zI x3))] [] σ Q := by
  refine j_aload_n d_Sc_word_68 0 rfl ?_
  refine j_getR 6 f_Sc_22 d_Sc_word_69 (tg_2 hE) (q_okE hE (by decide)) (rf_2_7 hE) (by decide) ?_
  refine j_aload_n d_Sc_word_72 0 rfl ?_
  refine zj_getI (z σ 2 4) f_Sc_65 d_Sc_word_73 (tg_2 hE) (q_okE hE (by decide)) (q_z _ _ _) ?_
  refine j_lload_n d_Sc_word_76 1 rfl ?_
  obtain ⟨c4, h⟩ := h
  refine zj_last d_Sc_word_77 (tg_6 hE) (q_okE hE (by decide)) c4 (by decide) ?_
  refine j_aload_n d_Sc_word_78 0 rfl ?_
  refine zj_getI (z σ 2 3) f_Sc_68 d_Sc_word_79 (tg_2 (zt_E hE)) (q_okE (zt_E hE) (by decide)) (Eq.trans (qt_i) (q_z _ _ _)) ?_
  refine j_iload_n d_Sc_word_82 2 rfl ?_
  refine zj_isub ((z σ 2 3) - x3) rfl d_Sc_word_83 ?_
  refine j_bipush (v := zI 8) d_Sc_word_84 (by decide) ?_
  obtain ⟨r5, h⟩ := h
  obtain ⟨h1, h2⟩ := h
  refine zj_icmp_le 92 d_Sc_word_86 (by decide) r5 ⟨by decide, by decide⟩ (fun k6 => ?_) (fun k6 => ?_)
  · have h := h1 k6
    refine j_iconst (v := zI 0) d_Sc_word_92 (by decide) ?_
    refine j_istore (L' := [(4, .int (zI 0)), (0, .ref 2), (1, .long x1), (3, .int (zI x3))]) d_Sc_word_93 (by decide) rfl ?_
    exact j_sel [1, 2, 0] rfl h
  · have h := h2 k6
    refine j_bipush (v := zI 47) d_Sc_word_89 (by decide) ?_
    exact zj_iret d_Sc_word_91 rfl (Nat.zero_le _) (Nat.zero_le _) h
set_option maxHeartbeats 2000000 in
theorem b_Sc_word_95 {ω : q_W} {σ : q_H} {Q : q_R → q_H → Prop} {d mc ms : Nat} {x1 : Int64} {x4 : Int}  (hE : q_E σ) (h : inR x4 ∧ q_imp (x4 ≥ 7) ((Q (.inl (some (.int (zI 30)))) σ)) ∧ q_imp (x4 < 7) ((0 ≤ x4 ∧ x4 < 7) ∧ q_imp ((q_l σ 7 x4.toNat) ≠ x1) ((J ω m_Sc_word (d + 1) mc ms 0 0 95 [(0, .ref 2), (1, .long x1), (4, .int (zI (x4 + 1)))] [] σ Q)) ∧ q_imp ((q_l σ 7 x4.toNat) = x1) ((Q (.inl (some (.int (zI (x4 + 39))))) σ)))) : J ω m_Sc_word (d + 1) mc ms 0 0 95 [(0, .ref 2), (1, .long x1), (4, .int (zI x4))] [] σ Q := by
  refine j_iload d_Sc_word_95 2 rfl ?_
  refine j_aload_n d_Sc_word_97 0 rfl ?_
  refine j_getR 7 f_Sc_44 d_Sc_word_98 (tg_2 hE) (q_okE hE (by decide)) (rf_2_1 hE) (by decide) ?_
  refine zj_alen d_Sc_word_101 (tg_7 hE) (by decide) (q_okE hE (by decide)) ?_
  obtain ⟨r7, h⟩ := h
  obtain ⟨h1, h2⟩ := h
  refine zj_icmp_ge 129 d_Sc_word_102 (by decide) r7 ⟨by decide, by decide⟩ (fun k8 => ?_) (fun k8 => ?_)
  · have h := h1 k8
    refine j_bipush (v := zI 30) d_Sc_word_129 (by decide) ?_
    exact zj_iret d_Sc_word_131 rfl (Nat.zero_le _) (Nat.zero_le _) h
  · have h := h2 k8
    refine j_aload_n d_Sc_word_105 0 rfl ?_
    refine j_getR 7 f_Sc_44 d_Sc_word_106 (tg_2 hE) (q_okE hE (by decide)) (rf_2_1 hE) (by decide) ?_
    refine j_iload d_Sc_word_109 2 rfl ?_
    obtain ⟨c9, h⟩ := h
    refine zj_lald (q_l σ 7 x4.toNat) d_Sc_word_111 (tg_7 hE) (q_okE hE (by decide)) c9 (by decide) (rfl) ?_
    refine j_lload_n d_Sc_word_112 1 rfl ?_
    obtain ⟨h1, h2⟩ := h
    refine zj_lcmp_ne 123 d_Sc_word_113 d_Sc_word_114 (by decide) (fun k10 => ?_) (fun k10 => ?_)
    · have h := h1 k10
      refine zj_iinc (L' := [(4, .int (zI (x4 + 1))), (0, .ref 2), (1, .long x1)]) (x4 + 1) d_Sc_word_123 2 rfl (by omega) (by decide) rfl ?_
      refine j_goto 95 d_Sc_word_126 (by decide) ?_
      exact j_sel [1, 2, 0] rfl h
    · have h := h2 k10
      refine j_bipush (v := zI 39) d_Sc_word_117 (by decide) ?_
      refine j_iload d_Sc_word_119 2 rfl ?_
      refine zj_iadd (x4 + 39) (by omega) d_Sc_word_121 ?_
      exact zj_iret d_Sc_word_122 rfl (Nat.zero_le _) (Nat.zero_le _) h
set_option maxHeartbeats 2000000 in
theorem b_Sc_digits_0 {ω : q_W} {σ : q_H} {Q : q_R → q_H → Prop} {d mc ms : Nat}   (hE : q_E σ) (h : (J ω m_Sc_digits (d + 1) mc ms 0 0 2 [(0, .ref 2), (1, .int (zI 0))] [] σ Q)) : J ω m_Sc_digits (d + 1) mc ms 0 0 0 [(0, .ref 2)] [] σ Q := by
  refine j_iconst (v := zI 0) d_Sc_digits_0 (by decide) ?_
  refine j_istore_n (L' := [(1, .int (zI 0)), (0, .ref 2)]) d_Sc_digits_1 (by decide) rfl ?_
  exact j_sel [1, 0] rfl h
set_option maxHeartbeats 2000000 in
theorem b_Sc_digits_2 {ω : q_W} {σ : q_H} {Q : q_R → q_H → Prop} {d mc ms : Nat} {x1 : Int}  (hE : q_E σ) (h : q_imp ((z σ 2 3) ≥ (z σ 2 2)) ((J ω m_Sc_digits (d + 1) mc ms 0 0 65 [(0, .ref 2), (1, .int (zI x1))] [] σ Q)) ∧ q_imp ((z σ 2 3) < (z σ 2 2)) ((0 ≤ (z σ 2 3) ∧ (z σ 2 3) < 4096) ∧ q_imp ((zIf (48 ≤ (z σ 3 (z σ 2 3).toNat) ∧ (z σ 3 (z σ 2 3).toNat) ≤ 57)) = 0) ((J ω m_Sc_digits (d + 1) mc ms 0 0 65 [(0, .ref 2), (1, .int (zI x1))] [] σ Q)) ∧ q_imp ((zIf (48 ≤ (z σ 3 (z σ 2 3).toNat) ∧ (z σ 3 (z σ 2 3).toNat) ≤ 57)) ≠ 0) (inR ((x1 * 10) + ((z σ 3 (z σ 2 3).toNat) - 48)) ∧ (J ω m_Sc_digits (d + 1) mc ms 0 0 2 [(0, .ref 2), (1, .int (zI (min ((x1 * 10) + ((z σ 3 (z σ 2 3).toNat) - 48)) 256)))] [] (zs σ 2 3 ((z σ 2 3) + 1)) Q)))) : J ω m_Sc_digits (d + 1) mc ms 0 0 2 [(0, .ref 2), (1, .int (zI x1))] [] σ Q := by
  refine j_aload_n d_Sc_digits_2 0 rfl ?_
  refine zj_getI (z σ 2 3) f_Sc_68 d_Sc_digits_3 (tg_2 hE) (q_okE hE (by decide)) (q_z _ _ _) ?_
  refine j_aload_n d_Sc_digits_6 0 rfl ?_
  refine zj_getI (z σ 2 2) f_Sc_59 d_Sc_digits_7 (tg_2 hE) (q_okE hE (by decide)) (q_z _ _ _) ?_
  obtain ⟨h1, h2⟩ := h
  refine zj_icmp_ge 65 d_Sc_digits_10 (by decide) (z_R _ _ _) (z_R _ _ _) (fun k1 => ?_) (fun k1 => ?_)
  · have h := h1 k1
    exact j_sel [0, 1] rfl h
  · have h := h2 k1
    refine j_aload_n d_Sc_digits_13 0 rfl ?_
    refine j_getR 3 f_Sc_9 d_Sc_digits_14 (tg_2 hE) (q_okE hE (by decide)) (rf_2_0 hE) (by decide) ?_
    refine j_aload_n d_Sc_digits_17 0 rfl ?_
    refine zj_getI (z σ 2 3) f_Sc_68 d_Sc_digits_18 (tg_2 hE) (q_okE hE (by decide)) (q_z _ _ _) ?_
    obtain ⟨c2, h⟩ := h
    refine zj_bald (z σ 3 (z σ 2 3).toNat) d_Sc_digits_21 (tg_3 hE) (q_okE hE (by decide)) c2 (by decide) (q_z _ _ _) ?_
    refine j_callS m_Sc_isDigit [.int (zI (z σ 3 (z σ 2 3).toNat))] [] 0 0 0 cS_Sc_78 d_Sc_digits_22 rfl rfl (Nat.le_of_ble_eq_true rfl) (Nat.succ_le_succ (Nat.zero_le _)) (Nat.le_of_ble_eq_true rfl) (Nat.zero_le _) (Nat.zero_le _) (c_Sc_isDigit hE (z_R _ _ _)) (fun v τ h => ?_) (fun x τ h => absurd h.1 (by simp))
    obtain ⟨e1, e2⟩ := h; cases e1; rw [e2]
    obtain ⟨h1, h2⟩ := h
    refine zj_if_eq 65 d_Sc_digits_25 (by decide) (zIf_R _) (fun k3 => ?_) (fun k3 => ?_)
    · have h := h1 k3
      exact j_sel [0, 1] rfl h
    · have h := h2 k3
      refine j_iload_n d_Sc_digits_28 1 rfl ?_
      refine j_bipush (v := zI 10) d_Sc_digits_29 (by decide) ?_
      refine zj_imul (x1 * 10) rfl d_Sc_digits_31 ?_
      refine j_aload_n d_Sc_digits_32 0 rfl ?_
      refine j_getR 3 f_Sc_9 d_Sc_digits_33 (tg_2 hE) (q_okE hE (by decide)) (rf_2_0 hE) (by decide) ?_
      refine j_aload_n d_Sc_digits_36 0 rfl ?_
      refine zj_getI (z σ 2 3) f_Sc_68 d_Sc_digits_37 (tg_2 hE) (q_okE hE (by decide)) (q_z _ _ _) ?_
      refine zj_bald (z σ 3 (z σ 2 3).toNat) d_Sc_digits_40 (tg_3 hE) (q_okE hE (by decide)) c2 (by decide) (q_z _ _ _) ?_
      refine j_bipush (v := zI 48) d_Sc_digits_41 (by decide) ?_
      refine zj_isub ((z σ 3 (z σ 2 3).toNat) - 48) (by omega) d_Sc_digits_43 ?_
      refine zj_iadd ((x1 * 10) + ((z σ 3 (z σ 2 3).toNat) - 48)) rfl d_Sc_digits_44 ?_
      refine j_sipush (v := zI 256) d_Sc_digits_45 (by decide) ?_
      obtain ⟨r4, h⟩ := h
      refine zj_min (List.mem_of_getElem? (i := 792) (by decide +kernel)) d_Sc_digits_48 (Nat.succ_le_succ (Nat.zero_le _)) (Nat.le_of_ble_eq_true rfl) (Nat.zero_le _) (Nat.zero_le _) r4 ⟨by decide, by decide⟩ ?_
      refine j_istore_n (L' := [(1, .int (zI (min ((x1 * 10) + ((z σ 3 (z σ 2 3).toNat) - 48)) 256))), (0, .ref 2)]) d_Sc_digits_51 (by decide) rfl ?_
      refine j_aload_n d_Sc_digits_52 1 rfl ?_
      refine j_dup d_Sc_digits_53 rfl ?_
      refine zj_getI (z σ 2 3) f_Sc_68 d_Sc_digits_54 (tg_2 hE) (q_okE hE (by decide)) (q_z _ _ _) ?_
      refine j_iconst (v := zI 1) d_Sc_digits_57 (by decide) ?_
      refine zj_iadd ((z σ 2 3) + 1) (by omega) d_Sc_digits_58 ?_
      refine zj_putI (g_Sc_68 _) d_Sc_digits_59 (tg_2 hE) (q_okE hE (by decide)) ?_
      refine j_goto 2 d_Sc_digits_62 (by decide) ?_
      exact j_sel [1, 0] rfl h
set_option maxHeartbeats 2000000 in
theorem b_Sc_digits_65 {ω : q_W} {σ : q_H} {Q : q_R → q_H → Prop} {d mc ms : Nat} {x1 : Int}  (hE : q_E σ) (h : (0 ≤ (z σ 2 4) ∧ (z σ 2 4) < 4097) ∧ inR x1 ∧ q_imp (x1 ≤ 255) ((Q (.inl (some (.int (zI 23)))) (zt σ 6 (z σ 2 4).toNat (zI x1).toInt64))) ∧ q_imp (x1 > 255) ((Q (.inl (some (.int (zI 47)))) (zt σ 6 (z σ 2 4).toNat (zI x1).toInt64)))) : J ω m_Sc_digits (d + 1) mc ms 0 0 65 [(0, .ref 2), (1, .int (zI x1))] [] σ Q := by
  refine j_aload_n d_Sc_digits_65 0 rfl ?_
  refine j_getR 6 f_Sc_22 d_Sc_digits_66 (tg_2 hE) (q_okE hE (by decide)) (rf_2_7 hE) (by decide) ?_
  refine j_aload_n d_Sc_digits_69 0 rfl ?_
  refine zj_getI (z σ 2 4) f_Sc_65 d_Sc_digits_70 (tg_2 hE) (q_okE hE (by decide)) (q_z _ _ _) ?_
  refine j_iload_n d_Sc_digits_73 1 rfl ?_
  refine j_i2l d_Sc_digits_74 ?_
  obtain ⟨c5, h⟩ := h
  refine zj_last d_Sc_digits_75 (tg_6 hE) (q_okE hE (by decide)) c5 (by decide) ?_
  refine j_iload_n d_Sc_digits_76 1 rfl ?_
  refine j_sipush (v := zI 255) d_Sc_digits_77 (by decide) ?_
  obtain ⟨r6, h⟩ := h
  obtain ⟨h1, h2⟩ := h
  refine zj_icmp_le 88 d_Sc_digits_80 (by decide) r6 ⟨by decide, by decide⟩ (fun k7 => ?_) (fun k7 => ?_)
  · have h := h1 k7
    refine j_bipush (v := zI 23) d_Sc_digits_88 (by decide) ?_
    exact zj_iret d_Sc_digits_90 rfl (Nat.zero_le _) (Nat.zero_le _) h
  · have h := h2 k7
    refine j_bipush (v := zI 47) d_Sc_digits_83 (by decide) ?_
    refine j_goto 90 d_Sc_digits_85 (by decide) ?_
    exact zj_iret d_Sc_digits_90 rfl (Nat.zero_le _) (Nat.zero_le _) h
set_option maxHeartbeats 2000000 in
theorem b_Sc_sign_0 {ω : q_W} {σ : q_H} {Q : q_R → q_H → Prop} {d mc ms : Nat}   (hE : q_E σ) (h : (0 ≤ (z σ 2 3) ∧ (z σ 2 3) < 4096) ∧ inR ((z σ 2 3) + 1) ∧ q_imp (((z σ 2 3) + 1) ≥ (z σ 2 2)) ((J ω m_Sc_sign (d + 1) mc ms 0 0 38 [(0, .ref 2), (1, .int (zI (z σ 3 (z σ 2 3).toNat)))] [.int (zI 0)] σ Q)) ∧ q_imp (((z σ 2 3) + 1) < (z σ 2 2)) ((0 ≤ ((z σ 2 3) + 1) ∧ ((z σ 2 3) + 1) < 4096) ∧ (J ω m_Sc_sign (d + 1) mc ms 0 0 38 [(0, .ref 2), (1, .int (zI (z σ 3 (z σ 2 3).toNat)))] [.int (zI (z σ 3 ((z σ 2 3) + 1).toNat))] σ Q))) : J ω m_Sc_sign (d + 1) mc ms 0 0 0 [(0, .ref 2)] [] σ Q := by
  refine j_aload_n d_Sc_sign_0 0 rfl ?_
  refine j_getR 3 f_Sc_9 d_Sc_sign_1 (tg_2 hE) (q_okE hE (by decide)) (rf_2_0 hE) (by decide) ?_
  refine j_aload_n d_Sc_sign_4 0 rfl ?_
  refine zj_getI (z σ 2 3) f_Sc_68 d_Sc_sign_5 (tg_2 hE) (q_okE hE (by decide)) (q_z _ _ _) ?_
  obtain ⟨c1, h⟩ := h
  refine zj_bald (z σ 3 (z σ 2 3).toNat) d_Sc_sign_8 (tg_3 hE) (q_okE hE (by decide)) c1 (by decide) (q_z _ _ _) ?_
  refine j_istore_n (L' := [(1, .int (zI (z σ 3 (z σ 2 3).toNat))), (0, .ref 2)]) d_Sc_sign_9 (by decide) rfl ?_
  refine j_aload_n d_Sc_sign_10 1 rfl ?_
  refine zj_getI (z σ 2 3) f_Sc_68 d_Sc_sign_11 (tg_2 hE) (q_okE hE (by decide)) (q_z _ _ _) ?_
  refine j_iconst (v := zI 1) d_Sc_sign_14 (by decide) ?_
  refine zj_iadd ((z σ 2 3) + 1) (by omega) d_Sc_sign_15 ?_
  refine j_aload_n d_Sc_sign_16 1 rfl ?_
  refine zj_getI (z σ 2 2) f_Sc_59 d_Sc_sign_17 (tg_2 hE) (q_okE hE (by decide)) (q_z _ _ _) ?_
  obtain ⟨r2, h⟩ := h
  obtain ⟨h1, h2⟩ := h
  refine zj_icmp_ge 37 d_Sc_sign_20 (by decide) r2 (z_R _ _ _) (fun k3 => ?_) (fun k3 => ?_)
  · have h := h1 k3
    refine j_iconst (v := zI 0) d_Sc_sign_37 (by decide) ?_
    exact j_sel [1, 0] rfl h
  · have h := h2 k3
    refine j_aload_n d_Sc_sign_23 1 rfl ?_
    refine j_getR 3 f_Sc_9 d_Sc_sign_24 (tg_2 hE) (q_okE hE (by decide)) (rf_2_0 hE) (by decide) ?_
    refine j_aload_n d_Sc_sign_27 1 rfl ?_
    refine zj_getI (z σ 2 3) f_Sc_68 d_Sc_sign_28 (tg_2 hE) (q_okE hE (by decide)) (q_z _ _ _) ?_
    refine j_iconst (v := zI 1) d_Sc_sign_31 (by decide) ?_
    refine zj_iadd ((z σ 2 3) + 1) (by omega) d_Sc_sign_32 ?_
    obtain ⟨c4, h⟩ := h
    refine zj_bald (z σ 3 ((z σ 2 3) + 1).toNat) d_Sc_sign_33 (tg_3 hE) (q_okE hE (by decide)) c4 (by decide) (q_z _ _ _) ?_
    refine j_goto 38 d_Sc_sign_34 (by decide) ?_
    exact j_sel [1, 0] rfl h
set_option maxHeartbeats 2000000 in
theorem b_Sc_sign_38 {ω : q_W} {σ : q_H} {Q : q_R → q_H → Prop} {d mc ms : Nat} {x1 : Int} {y0 : Int}  (hE : q_E σ) (h : (J ω m_Sc_doubleSign d 0 0 0 0 0 [(0, .int (zI x1)), (1, .int (zI y0))] [] σ (q_ki (fun v τ => J ω m_Sc_sign (d + 1) mc ms 0 0 44 [(0, .ref 2), (1, .int (zI x1))] [.int (zI v)] τ Q)))) : J ω m_Sc_sign (d + 1) mc ms 0 0 38 [(0, .ref 2), (1, .int (zI x1))] [.int (zI y0)] σ Q := by
  refine j_istore_n (L' := [(2, .int (zI y0)), (0, .ref 2), (1, .int (zI x1))]) d_Sc_sign_38 (by decide) rfl ?_
  refine j_iload_n d_Sc_sign_39 2 rfl ?_
  refine j_iload_n d_Sc_sign_40 0 rfl ?_
  refine j_callS m_Sc_doubleSign [.int (zI x1), .int (zI y0)] [] d 0 0 cS_Sc_93 d_Sc_sign_41 rfl rfl (Nat.le_of_ble_eq_true rfl) (Nat.le_refl _) (Nat.le_of_ble_eq_true rfl) (Nat.zero_le _) (Nat.zero_le _) h (fun v τ h => ?_) (fun x τ h => ?_)
  · obtain ⟨v, hv, e1, h⟩ := h; cases e1; exact j_sel [1, 2] rfl h
  · obtain ⟨v, hv, e1, h⟩ := h; cases e1
set_option maxHeartbeats 2000000 in
theorem b_Sc_sign_44 {ω : q_W} {σ : q_H} {Q : q_R → q_H → Prop} {d mc ms : Nat} {x1 : Int} {y0 : Int}  (hE : q_E σ) (h : inR y0 ∧ q_imp (y0 ≠ 47) ((J ω m_Sc_sign (d + 1) mc ms 0 0 61 [(1, .int (zI x1)), (3, .int (zI y0))] [.int (zI 2), .int (zI (z σ 2 3)), .ref 2] σ Q)) ∧ q_imp (y0 = 47) ((J ω m_Sc_sign (d + 1) mc ms 0 0 61 [(1, .int (zI x1)), (3, .int (zI y0))] [.int (zI 1), .int (zI (z σ 2 3)), .ref 2] σ Q))) : J ω m_Sc_sign (d + 1) mc ms 0 0 44 [(0, .ref 2), (1, .int (zI x1))] [.int (zI y0)] σ Q := by
  refine j_istore_n (L' := [(3, .int (zI y0)), (0, .ref 2), (1, .int (zI x1))]) d_Sc_sign_44 (by decide) rfl ?_
  refine j_aload_n d_Sc_sign_45 1 rfl ?_
  refine j_dup d_Sc_sign_46 rfl ?_
  refine zj_getI (z σ 2 3) f_Sc_68 d_Sc_sign_47 (tg_2 hE) (q_okE hE (by decide)) (q_z _ _ _) ?_
  refine j_iload_n d_Sc_sign_50 0 rfl ?_
  refine j_bipush (v := zI 47) d_Sc_sign_51 (by decide) ?_
  obtain ⟨r5, h⟩ := h
  obtain ⟨h1, h2⟩ := h
  refine zj_icmp_ne 60 d_Sc_sign_53 (by decide) r5 ⟨by decide, by decide⟩ (fun k6 => ?_) (fun k6 => ?_)
  · have h := h1 k6
    refine j_iconst (v := zI 2) d_Sc_sign_60 (by decide) ?_
    exact j_sel [2, 0] rfl h
  · have h := h2 k6
    refine j_iconst (v := zI 1) d_Sc_sign_56 (by decide) ?_
    refine j_goto 61 d_Sc_sign_57 (by decide) ?_
    exact j_sel [2, 0] rfl h
set_option maxHeartbeats 2000000 in
theorem b_Sc_sign_61 {ω : q_W} {σ : q_H} {Q : q_R → q_H → Prop} {d mc ms : Nat} {x1 : Int} {x3 : Int} {y0 : Int} {y1 : Int}  (hE : q_E σ) (h : inR x3 ∧ q_imp (x3 ≠ 47) ((Q (.inl (some (.int (zI x3)))) (zs σ 2 3 (y1 + y0)))) ∧ q_imp (x3 = 47) ((J ω m_Sc_singleSign d 0 0 0 0 0 [(0, .int (zI x1))] [] (zs σ 2 3 (y1 + y0)) (q_ki (fun v τ => J ω m_Sc_sign (d + 1) mc ms 0 0 75 [] [.int (zI v)] τ Q))))) : J ω m_Sc_sign (d + 1) mc ms 0 0 61 [(1, .int (zI x1)), (3, .int (zI x3))] [.int (zI y0), .int (zI y1), .ref 2] σ Q := by
  refine zj_iadd (y1 + y0) rfl d_Sc_sign_61 ?_
  refine zj_putI (g_Sc_68 _) d_Sc_sign_62 (tg_2 hE) (q_okE hE (by decide)) ?_
  refine j_iload_n d_Sc_sign_65 1 rfl ?_
  refine j_bipush (v := zI 47) d_Sc_sign_66 (by decide) ?_
  obtain ⟨r7, h⟩ := h
  obtain ⟨h1, h2⟩ := h
  refine zj_icmp_ne 78 d_Sc_sign_68 (by decide) r7 ⟨by decide, by decide⟩ (fun k8 => ?_) (fun k8 => ?_)
  · have h := h1 k8
    refine j_iload_n d_Sc_sign_78 1 rfl ?_
    exact zj_iret d_Sc_sign_79 rfl (Nat.zero_le _) (Nat.zero_le _) h
  · have h := h2 k8
    refine j_iload_n d_Sc_sign_71 0 rfl ?_
    refine j_callS m_Sc_singleSign [.int (zI x1)] [] d 0 0 cS_Sc_96 d_Sc_sign_72 rfl rfl (Nat.le_of_ble_eq_true rfl) (Nat.le_refl _) (Nat.le_of_ble_eq_true rfl) (Nat.zero_le _) (Nat.zero_le _) h (fun v τ h => ?_) (fun x τ h => ?_)
    · obtain ⟨v, hv, e1, h⟩ := h; cases e1; exact j_sel [] rfl h
    · obtain ⟨v, hv, e1, h⟩ := h; cases e1
set_option maxHeartbeats 2000000 in
theorem b_Sc_sign_75 {ω : q_W} {σ : q_H} {Q : q_R → q_H → Prop} {d mc ms : Nat} {y0 : Int}  (hE : q_E σ) (h : (Q (.inl (some (.int (zI y0)))) σ)) : J ω m_Sc_sign (d + 1) mc ms 0 0 75 [] [.int (zI y0)] σ Q := by
  refine j_goto 79 d_Sc_sign_75 (by decide) ?_
  exact zj_iret d_Sc_sign_79 rfl (Nat.zero_le _) (Nat.zero_le _) h
theorem o_Sc_doubleSign_1 {x : Int} (cs33 : ¬ x = 33) (cs38 : ¬ x = 38) (cs60 : ¬ x = 60) (cs61 : ¬ x = 61) (cs62 : ¬ x = 62) (cs124 : ¬ x = 124) : ¬ 33 = x ∧ ¬ 38 = x ∧ ¬ 60 = x ∧ ¬ 61 = x ∧ ¬ 62 = x ∧ ¬ 124 = x := by omega
set_option maxHeartbeats 2000000 in
theorem b_Sc_doubleSign_0 {ω : q_W} {σ : q_H} {Q : q_R → q_H → Prop} {d mc ms : Nat} {x0 : Int} {x1 : Int}  (hE : q_E σ) (h : inR x0 ∧ q_imp (x0 = 33) (inR x1 ∧ q_imp (x1 ≠ 61) ((Q (.inl (some (.int (zI 47)))) σ)) ∧ q_imp (x1 = 61) ((Q (.inl (some (.int (zI 7)))) σ))) ∧ q_imp (x0 = 38) (inR x1 ∧ q_imp (x1 ≠ 38) ((Q (.inl (some (.int (zI 47)))) σ)) ∧ q_imp (x1 = 38) ((Q (.inl (some (.int (zI 2)))) σ))) ∧ q_imp (x0 = 60) (inR x1 ∧ q_imp (x1 ≠ 61) (q_imp (x1 ≠ 60) ((Q (.inl (some (.int (zI 47)))) σ)) ∧ q_imp (x1 = 60) ((Q (.inl (some (.int (zI 12)))) σ))) ∧ q_imp (x1 = 61) ((Q (.inl (some (.int (zI 9)))) σ))) ∧ q_imp (x0 = 61) (inR x1 ∧ q_imp (x1 ≠ 61) ((Q (.inl (some (.int (zI 47)))) σ)) ∧ q_imp (x1 = 61) ((Q (.inl (some (.int (zI 6)))) σ))) ∧ q_imp (x0 = 62) (inR x1 ∧ q_imp (x1 ≠ 61) (q_imp (x1 ≠ 62) ((Q (.inl (some (.int (zI 47)))) σ)) ∧ q_imp (x1 = 62) ((Q (.inl (some (.int (zI 13)))) σ))) ∧ q_imp (x1 = 61) ((Q (.inl (some (.int (zI 11)))) σ))) ∧ q_imp (x0 = 124) (inR x1 ∧ q_imp (x1 ≠ 124) ((Q (.inl (some (.int (zI 47)))) σ)) ∧ q_imp (x1 = 124) ((Q (.inl (some (.int (zI 1)))) σ))) ∧ q_imp (x0 ≠ 33 ∧ x0 ≠ 38 ∧ x0 ≠ 60 ∧ x0 ≠ 61 ∧ x0 ≠ 62 ∧ x0 ≠ 124) ((Q (.inl (some (.int (zI 47)))) σ))) : J ω m_Sc_doubleSign d mc ms 0 0 0 [(0, .int (zI x0)), (1, .int (zI x1))] [] σ Q := by
  refine j_iload_n d_Sc_doubleSign_0 0 rfl ?_
  obtain ⟨r1, h⟩ := h
  obtain ⟨g74, g138, g88, g60, g113, g151, gD⟩ := h
  have jg74 : q_imp (x0 = 33) (J ω m_Sc_doubleSign d mc ms 0 0 74 [(0, .int (zI x0)), (1, .int (zI x1))] [] σ Q) := by
    intro c
    have h := g74 c
    refine j_iload_n d_Sc_doubleSign_74 1 rfl ?_
    refine j_bipush (v := zI 61) d_Sc_doubleSign_75 (by decide) ?_
    obtain ⟨r2, h⟩ := h
    obtain ⟨h1, h2⟩ := h
    refine zj_icmp_ne 85 d_Sc_doubleSign_77 (by decide) r2 ⟨by decide, by decide⟩ (fun k3 => ?_) (fun k3 => ?_)
    · have h := h1 k3
      refine j_bipush (v := zI 47) d_Sc_doubleSign_85 (by decide) ?_
      exact zj_iret d_Sc_doubleSign_87 rfl (Nat.zero_le _) (Nat.zero_le _) h
    · have h := h2 k3
      refine j_bipush (v := zI 7) d_Sc_doubleSign_80 (by decide) ?_
      refine j_goto 87 d_Sc_doubleSign_82 (by decide) ?_
      exact zj_iret d_Sc_doubleSign_87 rfl (Nat.zero_le _) (Nat.zero_le _) h
  have jg138 : q_imp (x0 = 38) (J ω m_Sc_doubleSign d mc ms 0 0 138 [(0, .int (zI x0)), (1, .int (zI x1))] [] σ Q) := by
    intro c
    have h := g138 c
    refine j_iload_n d_Sc_doubleSign_138 1 rfl ?_
    refine j_bipush (v := zI 38) d_Sc_doubleSign_139 (by decide) ?_
    obtain ⟨r4, h⟩ := h
    obtain ⟨h1, h2⟩ := h
    refine zj_icmp_ne 148 d_Sc_doubleSign_141 (by decide) r4 ⟨by decide, by decide⟩ (fun k5 => ?_) (fun k5 => ?_)
    · have h := h1 k5
      refine j_bipush (v := zI 47) d_Sc_doubleSign_148 (by decide) ?_
      exact zj_iret d_Sc_doubleSign_150 rfl (Nat.zero_le _) (Nat.zero_le _) h
    · have h := h2 k5
      refine j_iconst (v := zI 2) d_Sc_doubleSign_144 (by decide) ?_
      refine j_goto 150 d_Sc_doubleSign_145 (by decide) ?_
      exact zj_iret d_Sc_doubleSign_150 rfl (Nat.zero_le _) (Nat.zero_le _) h
  have jg88 : q_imp (x0 = 60) (J ω m_Sc_doubleSign d mc ms 0 0 88 [(0, .int (zI x0)), (1, .int (zI x1))] [] σ Q) := by
    intro c
    have h := g88 c
    refine j_iload_n d_Sc_doubleSign_88 1 rfl ?_
    refine j_bipush (v := zI 61) d_Sc_doubleSign_89 (by decide) ?_
    obtain ⟨r6, h⟩ := h
    obtain ⟨h1, h2⟩ := h
    refine zj_icmp_ne 99 d_Sc_doubleSign_91 (by decide) r6 ⟨by decide, by decide⟩ (fun k7 => ?_) (fun k7 => ?_)
    · have h := h1 k7
      refine j_iload_n d_Sc_doubleSign_99 1 rfl ?_
      refine j_bipush (v := zI 60) d_Sc_doubleSign_100 (by decide) ?_
      obtain ⟨h1, h2⟩ := h
      refine zj_icmp_ne 110 d_Sc_doubleSign_102 (by decide) r6 ⟨by decide, by decide⟩ (fun k8 => ?_) (fun k8 => ?_)
      · have h := h1 k8
        refine j_bipush (v := zI 47) d_Sc_doubleSign_110 (by decide) ?_
        exact zj_iret d_Sc_doubleSign_112 rfl (Nat.zero_le _) (Nat.zero_le _) h
      · have h := h2 k8
        refine j_bipush (v := zI 12) d_Sc_doubleSign_105 (by decide) ?_
        refine j_goto 112 d_Sc_doubleSign_107 (by decide) ?_
        exact zj_iret d_Sc_doubleSign_112 rfl (Nat.zero_le _) (Nat.zero_le _) h
    · have h := h2 k7
      refine j_bipush (v := zI 9) d_Sc_doubleSign_94 (by decide) ?_
      refine j_goto 112 d_Sc_doubleSign_96 (by decide) ?_
      exact zj_iret d_Sc_doubleSign_112 rfl (Nat.zero_le _) (Nat.zero_le _) h
  have jg60 : q_imp (x0 = 61) (J ω m_Sc_doubleSign d mc ms 0 0 60 [(0, .int (zI x0)), (1, .int (zI x1))] [] σ Q) := by
    intro c
    have h := g60 c
    refine j_iload_n d_Sc_doubleSign_60 1 rfl ?_
    refine j_bipush (v := zI 61) d_Sc_doubleSign_61 (by decide) ?_
    obtain ⟨r9, h⟩ := h
    obtain ⟨h1, h2⟩ := h
    refine zj_icmp_ne 71 d_Sc_doubleSign_63 (by decide) r9 ⟨by decide, by decide⟩ (fun k10 => ?_) (fun k10 => ?_)
    · have h := h1 k10
      refine j_bipush (v := zI 47) d_Sc_doubleSign_71 (by decide) ?_
      exact zj_iret d_Sc_doubleSign_73 rfl (Nat.zero_le _) (Nat.zero_le _) h
    · have h := h2 k10
      refine j_bipush (v := zI 6) d_Sc_doubleSign_66 (by decide) ?_
      refine j_goto 73 d_Sc_doubleSign_68 (by decide) ?_
      exact zj_iret d_Sc_doubleSign_73 rfl (Nat.zero_le _) (Nat.zero_le _) h
  have jg113 : q_imp (x0 = 62) (J ω m_Sc_doubleSign d mc ms 0 0 113 [(0, .int (zI x0)), (1, .int (zI x1))] [] σ Q) := by
    intro c
    have h := g113 c
    refine j_iload_n d_Sc_doubleSign_113 1 rfl ?_
    refine j_bipush (v := zI 61) d_Sc_doubleSign_114 (by decide) ?_
    obtain ⟨r11, h⟩ := h
    obtain ⟨h1, h2⟩ := h
    refine zj_icmp_ne 124 d_Sc_doubleSign_116 (by decide) r11 ⟨by decide, by decide⟩ (fun k12 => ?_) (fun k12 => ?_)
    · have h := h1 k12
      refine j_iload_n d_Sc_doubleSign_124 1 rfl ?_
      refine j_bipush (v := zI 62) d_Sc_doubleSign_125 (by decide) ?_
      obtain ⟨h1, h2⟩ := h
      refine zj_icmp_ne 135 d_Sc_doubleSign_127 (by decide) r11 ⟨by decide, by decide⟩ (fun k13 => ?_) (fun k13 => ?_)
      · have h := h1 k13
        refine j_bipush (v := zI 47) d_Sc_doubleSign_135 (by decide) ?_
        exact zj_iret d_Sc_doubleSign_137 rfl (Nat.zero_le _) (Nat.zero_le _) h
      · have h := h2 k13
        refine j_bipush (v := zI 13) d_Sc_doubleSign_130 (by decide) ?_
        refine j_goto 137 d_Sc_doubleSign_132 (by decide) ?_
        exact zj_iret d_Sc_doubleSign_137 rfl (Nat.zero_le _) (Nat.zero_le _) h
    · have h := h2 k12
      refine j_bipush (v := zI 11) d_Sc_doubleSign_119 (by decide) ?_
      refine j_goto 137 d_Sc_doubleSign_121 (by decide) ?_
      exact zj_iret d_Sc_doubleSign_137 rfl (Nat.zero_le _) (Nat.zero_le _) h
  have jg151 : q_imp (x0 = 124) (J ω m_Sc_doubleSign d mc ms 0 0 151 [(0, .int (zI x0)), (1, .int (zI x1))] [] σ Q) := by
    intro c
    have h := g151 c
    refine j_iload_n d_Sc_doubleSign_151 1 rfl ?_
    refine j_bipush (v := zI 124) d_Sc_doubleSign_152 (by decide) ?_
    obtain ⟨r14, h⟩ := h
    obtain ⟨h1, h2⟩ := h
    refine zj_icmp_ne 161 d_Sc_doubleSign_154 (by decide) r14 ⟨by decide, by decide⟩ (fun k15 => ?_) (fun k15 => ?_)
    · have h := h1 k15
      refine j_bipush (v := zI 47) d_Sc_doubleSign_161 (by decide) ?_
      exact zj_iret d_Sc_doubleSign_163 rfl (Nat.zero_le _) (Nat.zero_le _) h
    · have h := h2 k15
      refine j_iconst (v := zI 1) d_Sc_doubleSign_157 (by decide) ?_
      refine j_goto 163 d_Sc_doubleSign_158 (by decide) ?_
      exact zj_iret d_Sc_doubleSign_163 rfl (Nat.zero_le _) (Nat.zero_le _) h
  have jgD : q_imp (x0 ≠ 33 ∧ x0 ≠ 38 ∧ x0 ≠ 60 ∧ x0 ≠ 61 ∧ x0 ≠ 62 ∧ x0 ≠ 124) (J ω m_Sc_doubleSign d mc ms 0 0 164 [(0, .int (zI x0)), (1, .int (zI x1))] [] σ Q) := by
    intro c
    have h := gD c
    refine j_bipush (v := zI 47) d_Sc_doubleSign_164 (by decide) ?_
    exact zj_iret d_Sc_doubleSign_166 rfl (Nat.zero_le _) (Nat.zero_le _) h
  by_cases cs33 : x0 = 33
  · exact j_topE (v := zI 33) (by rw [cs33]) (j_lookup 74 d_Sc_doubleSign_1 (by decide) (by rfl) (by decide) (jg74 cs33))
  by_cases cs38 : x0 = 38
  · exact j_topE (v := zI 38) (by rw [cs38]) (j_lookup 138 d_Sc_doubleSign_1 (by decide) (by rfl) (by decide) (jg138 cs38))
  by_cases cs60 : x0 = 60
  · exact j_topE (v := zI 60) (by rw [cs60]) (j_lookup 88 d_Sc_doubleSign_1 (by decide) (by rfl) (by decide) (jg88 cs60))
  by_cases cs61 : x0 = 61
  · exact j_topE (v := zI 61) (by rw [cs61]) (j_lookup 60 d_Sc_doubleSign_1 (by decide) (by rfl) (by decide) (jg60 cs61))
  by_cases cs62 : x0 = 62
  · exact j_topE (v := zI 62) (by rw [cs62]) (j_lookup 113 d_Sc_doubleSign_1 (by decide) (by rfl) (by decide) (jg113 cs62))
  by_cases cs124 : x0 = 124
  · exact j_topE (v := zI 124) (by rw [cs124]) (j_lookup 151 d_Sc_doubleSign_1 (by decide) (by rfl) (by decide) (jg151 cs124))
  exact zj_lookd 164 d_Sc_doubleSign_1 (by decide) r1 (by simp; exact o_Sc_doubleSign_1 cs33 cs38 cs60 cs61 cs62 cs124) (by decide) (jgD ⟨cs33, cs38, cs60, cs61, cs62, cs124⟩)
theorem o_Sc_singleSign_1 {x : Int} (cs33 : ¬ x = 33) (cs40 : ¬ x = 40) (cs41 : ¬ x = 41) (cs58 : ¬ x = 58) (cs59 : ¬ x = 59) (cs61 : ¬ x = 61) (cs63 : ¬ x = 63) (cs123 : ¬ x = 123) (cs125 : ¬ x = 125) (cs126 : ¬ x = 126) : ¬ 33 = x ∧ ¬ 40 = x ∧ ¬ 41 = x ∧ ¬ 58 = x ∧ ¬ 59 = x ∧ ¬ 61 = x ∧ ¬ 63 = x ∧ ¬ 123 = x ∧ ¬ 125 = x ∧ ¬ 126 = x := by omega
set_option maxHeartbeats 2000000 in
theorem b_Sc_singleSign_0 {ω : q_W} {σ : q_H} {Q : q_R → q_H → Prop} {d mc ms : Nat} {x0 : Int}  (hE : q_E σ) (h : inR x0 ∧ q_imp (x0 = 33) ((Q (.inl (some (.int (zI 19)))) σ)) ∧ q_imp (x0 = 40) ((Q (.inl (some (.int (zI 35)))) σ)) ∧ q_imp (x0 = 41) ((Q (.inl (some (.int (zI 36)))) σ)) ∧ q_imp (x0 = 58) ((Q (.inl (some (.int (zI 33)))) σ)) ∧ q_imp (x0 = 59) ((Q (.inl (some (.int (zI 32)))) σ)) ∧ q_imp (x0 = 61) ((Q (.inl (some (.int (zI 31)))) σ)) ∧ q_imp (x0 = 63) ((Q (.inl (some (.int (zI 34)))) σ)) ∧ q_imp (x0 = 123) ((Q (.inl (some (.int (zI 37)))) σ)) ∧ q_imp (x0 = 125) ((Q (.inl (some (.int (zI 38)))) σ)) ∧ q_imp (x0 = 126) ((Q (.inl (some (.int (zI 20)))) σ)) ∧ q_imp (x0 ≠ 33 ∧ x0 ≠ 40 ∧ x0 ≠ 41 ∧ x0 ≠ 58 ∧ x0 ≠ 59 ∧ x0 ≠ 61 ∧ x0 ≠ 63 ∧ x0 ≠ 123 ∧ x0 ≠ 125 ∧ x0 ≠ 126) ((J ω m_Sc_operatorSign d 0 0 0 0 0 [(0, .int (zI x0))] [] σ (q_ki (fun v τ => J ω m_Sc_singleSign (d + 1) mc ms 0 0 126 [] [.int (zI v)] τ Q))))) : J ω m_Sc_singleSign (d + 1) mc ms 0 0 0 [(0, .int (zI x0))] [] σ Q := by
  refine j_iload_n d_Sc_singleSign_0 0 rfl ?_
  obtain ⟨r1, h⟩ := h
  obtain ⟨g116, g98, g101, g95, g92, g110, g113, g104, g107, g119, gD⟩ := h
  have jg116 : q_imp (x0 = 33) (J ω m_Sc_singleSign (d + 1) mc ms 0 0 116 [(0, .int (zI x0))] [] σ Q) := by
    intro c
    have h := g116 c
    refine j_bipush (v := zI 19) d_Sc_singleSign_116 (by decide) ?_
    exact zj_iret d_Sc_singleSign_118 rfl (Nat.zero_le _) (Nat.zero_le _) h
  have jg98 : q_imp (x0 = 40) (J ω m_Sc_singleSign (d + 1) mc ms 0 0 98 [(0, .int (zI x0))] [] σ Q) := by
    intro c
    have h := g98 c
    refine j_bipush (v := zI 35) d_Sc_singleSign_98 (by decide) ?_
    exact zj_iret d_Sc_singleSign_100 rfl (Nat.zero_le _) (Nat.zero_le _) h
  have jg101 : q_imp (x0 = 41) (J ω m_Sc_singleSign (d + 1) mc ms 0 0 101 [(0, .int (zI x0))] [] σ Q) := by
    intro c
    have h := g101 c
    refine j_bipush (v := zI 36) d_Sc_singleSign_101 (by decide) ?_
    exact zj_iret d_Sc_singleSign_103 rfl (Nat.zero_le _) (Nat.zero_le _) h
  have jg95 : q_imp (x0 = 58) (J ω m_Sc_singleSign (d + 1) mc ms 0 0 95 [(0, .int (zI x0))] [] σ Q) := by
    intro c
    have h := g95 c
    refine j_bipush (v := zI 33) d_Sc_singleSign_95 (by decide) ?_
    exact zj_iret d_Sc_singleSign_97 rfl (Nat.zero_le _) (Nat.zero_le _) h
  have jg92 : q_imp (x0 = 59) (J ω m_Sc_singleSign (d + 1) mc ms 0 0 92 [(0, .int (zI x0))] [] σ Q) := by
    intro c
    have h := g92 c
    refine j_bipush (v := zI 32) d_Sc_singleSign_92 (by decide) ?_
    exact zj_iret d_Sc_singleSign_94 rfl (Nat.zero_le _) (Nat.zero_le _) h
  have jg110 : q_imp (x0 = 61) (J ω m_Sc_singleSign (d + 1) mc ms 0 0 110 [(0, .int (zI x0))] [] σ Q) := by
    intro c
    have h := g110 c
    refine j_bipush (v := zI 31) d_Sc_singleSign_110 (by decide) ?_
    exact zj_iret d_Sc_singleSign_112 rfl (Nat.zero_le _) (Nat.zero_le _) h
  have jg113 : q_imp (x0 = 63) (J ω m_Sc_singleSign (d + 1) mc ms 0 0 113 [(0, .int (zI x0))] [] σ Q) := by
    intro c
    have h := g113 c
    refine j_bipush (v := zI 34) d_Sc_singleSign_113 (by decide) ?_
    exact zj_iret d_Sc_singleSign_115 rfl (Nat.zero_le _) (Nat.zero_le _) h
  have jg104 : q_imp (x0 = 123) (J ω m_Sc_singleSign (d + 1) mc ms 0 0 104 [(0, .int (zI x0))] [] σ Q) := by
    intro c
    have h := g104 c
    refine j_bipush (v := zI 37) d_Sc_singleSign_104 (by decide) ?_
    exact zj_iret d_Sc_singleSign_106 rfl (Nat.zero_le _) (Nat.zero_le _) h
  have jg107 : q_imp (x0 = 125) (J ω m_Sc_singleSign (d + 1) mc ms 0 0 107 [(0, .int (zI x0))] [] σ Q) := by
    intro c
    have h := g107 c
    refine j_bipush (v := zI 38) d_Sc_singleSign_107 (by decide) ?_
    exact zj_iret d_Sc_singleSign_109 rfl (Nat.zero_le _) (Nat.zero_le _) h
  have jg119 : q_imp (x0 = 126) (J ω m_Sc_singleSign (d + 1) mc ms 0 0 119 [(0, .int (zI x0))] [] σ Q) := by
    intro c
    have h := g119 c
    refine j_bipush (v := zI 20) d_Sc_singleSign_119 (by decide) ?_
    exact zj_iret d_Sc_singleSign_121 rfl (Nat.zero_le _) (Nat.zero_le _) h
  have jgD : q_imp (x0 ≠ 33 ∧ x0 ≠ 40 ∧ x0 ≠ 41 ∧ x0 ≠ 58 ∧ x0 ≠ 59 ∧ x0 ≠ 61 ∧ x0 ≠ 63 ∧ x0 ≠ 123 ∧ x0 ≠ 125 ∧ x0 ≠ 126) (J ω m_Sc_singleSign (d + 1) mc ms 0 0 122 [(0, .int (zI x0))] [] σ Q) := by
    intro c
    have h := gD c
    refine j_iload_n d_Sc_singleSign_122 0 rfl ?_
    refine j_callS m_Sc_operatorSign [.int (zI x0)] [] d 0 0 cS_Sc_100 d_Sc_singleSign_123 rfl rfl (Nat.le_of_ble_eq_true rfl) (Nat.le_refl _) (Nat.le_of_ble_eq_true rfl) (Nat.zero_le _) (Nat.zero_le _) h (fun v τ h => ?_) (fun x τ h => ?_)
    · obtain ⟨v, hv, e1, h⟩ := h; cases e1; exact j_sel [] rfl h
    · obtain ⟨v, hv, e1, h⟩ := h; cases e1
  by_cases cs33 : x0 = 33
  · exact j_topE (v := zI 33) (by rw [cs33]) (j_lookup 116 d_Sc_singleSign_1 (by decide) (by rfl) (by decide) (jg116 cs33))
  by_cases cs40 : x0 = 40
  · exact j_topE (v := zI 40) (by rw [cs40]) (j_lookup 98 d_Sc_singleSign_1 (by decide) (by rfl) (by decide) (jg98 cs40))
  by_cases cs41 : x0 = 41
  · exact j_topE (v := zI 41) (by rw [cs41]) (j_lookup 101 d_Sc_singleSign_1 (by decide) (by rfl) (by decide) (jg101 cs41))
  by_cases cs58 : x0 = 58
  · exact j_topE (v := zI 58) (by rw [cs58]) (j_lookup 95 d_Sc_singleSign_1 (by decide) (by rfl) (by decide) (jg95 cs58))
  by_cases cs59 : x0 = 59
  · exact j_topE (v := zI 59) (by rw [cs59]) (j_lookup 92 d_Sc_singleSign_1 (by decide) (by rfl) (by decide) (jg92 cs59))
  by_cases cs61 : x0 = 61
  · exact j_topE (v := zI 61) (by rw [cs61]) (j_lookup 110 d_Sc_singleSign_1 (by decide) (by rfl) (by decide) (jg110 cs61))
  by_cases cs63 : x0 = 63
  · exact j_topE (v := zI 63) (by rw [cs63]) (j_lookup 113 d_Sc_singleSign_1 (by decide) (by rfl) (by decide) (jg113 cs63))
  by_cases cs123 : x0 = 123
  · exact j_topE (v := zI 123) (by rw [cs123]) (j_lookup 104 d_Sc_singleSign_1 (by decide) (by rfl) (by decide) (jg104 cs123))
  by_cases cs125 : x0 = 125
  · exact j_topE (v := zI 125) (by rw [cs125]) (j_lookup 107 d_Sc_singleSign_1 (by decide) (by rfl) (by decide) (jg107 cs125))
  by_cases cs126 : x0 = 126
  · exact j_topE (v := zI 126) (by rw [cs126]) (j_lookup 119 d_Sc_singleSign_1 (by decide) (by rfl) (by decide) (jg119 cs126))
  exact zj_lookd 122 d_Sc_singleSign_1 (by decide) r1 (by simp; exact o_Sc_singleSign_1 cs33 cs40 cs41 cs58 cs59 cs61 cs63 cs123 cs125 cs126) (by decide) (jgD ⟨cs33, cs40, cs41, cs58, cs59, cs61, cs63, cs123, cs125, cs126⟩)
set_option maxHeartbeats 2000000 in
theorem b_Sc_singleSign_126 {ω : q_W} {σ : q_H} {Q : q_R → q_H → Prop} {d mc ms : Nat} {y0 : Int}  (hE : q_E σ) (h : (Q (.inl (some (.int (zI y0)))) σ)) : J ω m_Sc_singleSign (d + 1) mc ms 0 0 126 [] [.int (zI y0)] σ Q := by
  exact zj_iret d_Sc_singleSign_126 rfl (Nat.zero_le _) (Nat.zero_le _) h
theorem o_Sc_operatorSign_1 {x : Int} (cs37 : ¬ x = 37) (cs38 : ¬ x = 38) (cs42 : ¬ x = 42) (cs43 : ¬ x = 43) (cs45 : ¬ x = 45) (cs47 : ¬ x = 47) (cs60 : ¬ x = 60) (cs62 : ¬ x = 62) (cs94 : ¬ x = 94) (cs124 : ¬ x = 124) : ¬ 37 = x ∧ ¬ 38 = x ∧ ¬ 42 = x ∧ ¬ 43 = x ∧ ¬ 45 = x ∧ ¬ 47 = x ∧ ¬ 60 = x ∧ ¬ 62 = x ∧ ¬ 94 = x ∧ ¬ 124 = x := by omega
set_option maxHeartbeats 2000000 in
theorem b_Sc_operatorSign_0 {ω : q_W} {σ : q_H} {Q : q_R → q_H → Prop} {d mc ms : Nat} {x0 : Int}  (hE : q_E σ) (h : inR x0 ∧ q_imp (x0 = 37) ((Q (.inl (some (.int (zI 18)))) σ)) ∧ q_imp (x0 = 38) ((Q (.inl (some (.int (zI 5)))) σ)) ∧ q_imp (x0 = 42) ((Q (.inl (some (.int (zI 16)))) σ)) ∧ q_imp (x0 = 43) ((Q (.inl (some (.int (zI 14)))) σ)) ∧ q_imp (x0 = 45) ((Q (.inl (some (.int (zI 15)))) σ)) ∧ q_imp (x0 = 47) ((Q (.inl (some (.int (zI 17)))) σ)) ∧ q_imp (x0 = 60) ((Q (.inl (some (.int (zI 8)))) σ)) ∧ q_imp (x0 = 62) ((Q (.inl (some (.int (zI 10)))) σ)) ∧ q_imp (x0 = 94) ((Q (.inl (some (.int (zI 4)))) σ)) ∧ q_imp (x0 = 124) ((Q (.inl (some (.int (zI 3)))) σ)) ∧ q_imp (x0 ≠ 37 ∧ x0 ≠ 38 ∧ x0 ≠ 42 ∧ x0 ≠ 43 ∧ x0 ≠ 45 ∧ x0 ≠ 47 ∧ x0 ≠ 60 ∧ x0 ≠ 62 ∧ x0 ≠ 94 ∧ x0 ≠ 124) ((Q (.inl (some (.int (zI 47)))) σ))) : J ω m_Sc_operatorSign d mc ms 0 0 0 [(0, .int (zI x0))] [] σ Q := by
  refine j_iload_n d_Sc_operatorSign_0 0 rfl ?_
  obtain ⟨r1, h⟩ := h
  obtain ⟨g104, g107, g98, g92, g95, g101, g113, g116, g111, g109, gD⟩ := h
  have jg104 : q_imp (x0 = 37) (J ω m_Sc_operatorSign d mc ms 0 0 104 [(0, .int (zI x0))] [] σ Q) := by
    intro c
    have h := g104 c
    refine j_bipush (v := zI 18) d_Sc_operatorSign_104 (by decide) ?_
    exact zj_iret d_Sc_operatorSign_106 rfl (Nat.zero_le _) (Nat.zero_le _) h
  have jg107 : q_imp (x0 = 38) (J ω m_Sc_operatorSign d mc ms 0 0 107 [(0, .int (zI x0))] [] σ Q) := by
    intro c
    have h := g107 c
    refine j_iconst (v := zI 5) d_Sc_operatorSign_107 (by decide) ?_
    exact zj_iret d_Sc_operatorSign_108 rfl (Nat.zero_le _) (Nat.zero_le _) h
  have jg98 : q_imp (x0 = 42) (J ω m_Sc_operatorSign d mc ms 0 0 98 [(0, .int (zI x0))] [] σ Q) := by
    intro c
    have h := g98 c
    refine j_bipush (v := zI 16) d_Sc_operatorSign_98 (by decide) ?_
    exact zj_iret d_Sc_operatorSign_100 rfl (Nat.zero_le _) (Nat.zero_le _) h
  have jg92 : q_imp (x0 = 43) (J ω m_Sc_operatorSign d mc ms 0 0 92 [(0, .int (zI x0))] [] σ Q) := by
    intro c
    have h := g92 c
    refine j_bipush (v := zI 14) d_Sc_operatorSign_92 (by decide) ?_
    exact zj_iret d_Sc_operatorSign_94 rfl (Nat.zero_le _) (Nat.zero_le _) h
  have jg95 : q_imp (x0 = 45) (J ω m_Sc_operatorSign d mc ms 0 0 95 [(0, .int (zI x0))] [] σ Q) := by
    intro c
    have h := g95 c
    refine j_bipush (v := zI 15) d_Sc_operatorSign_95 (by decide) ?_
    exact zj_iret d_Sc_operatorSign_97 rfl (Nat.zero_le _) (Nat.zero_le _) h
  have jg101 : q_imp (x0 = 47) (J ω m_Sc_operatorSign d mc ms 0 0 101 [(0, .int (zI x0))] [] σ Q) := by
    intro c
    have h := g101 c
    refine j_bipush (v := zI 17) d_Sc_operatorSign_101 (by decide) ?_
    exact zj_iret d_Sc_operatorSign_103 rfl (Nat.zero_le _) (Nat.zero_le _) h
  have jg113 : q_imp (x0 = 60) (J ω m_Sc_operatorSign d mc ms 0 0 113 [(0, .int (zI x0))] [] σ Q) := by
    intro c
    have h := g113 c
    refine j_bipush (v := zI 8) d_Sc_operatorSign_113 (by decide) ?_
    exact zj_iret d_Sc_operatorSign_115 rfl (Nat.zero_le _) (Nat.zero_le _) h
  have jg116 : q_imp (x0 = 62) (J ω m_Sc_operatorSign d mc ms 0 0 116 [(0, .int (zI x0))] [] σ Q) := by
    intro c
    have h := g116 c
    refine j_bipush (v := zI 10) d_Sc_operatorSign_116 (by decide) ?_
    exact zj_iret d_Sc_operatorSign_118 rfl (Nat.zero_le _) (Nat.zero_le _) h
  have jg111 : q_imp (x0 = 94) (J ω m_Sc_operatorSign d mc ms 0 0 111 [(0, .int (zI x0))] [] σ Q) := by
    intro c
    have h := g111 c
    refine j_iconst (v := zI 4) d_Sc_operatorSign_111 (by decide) ?_
    exact zj_iret d_Sc_operatorSign_112 rfl (Nat.zero_le _) (Nat.zero_le _) h
  have jg109 : q_imp (x0 = 124) (J ω m_Sc_operatorSign d mc ms 0 0 109 [(0, .int (zI x0))] [] σ Q) := by
    intro c
    have h := g109 c
    refine j_iconst (v := zI 3) d_Sc_operatorSign_109 (by decide) ?_
    exact zj_iret d_Sc_operatorSign_110 rfl (Nat.zero_le _) (Nat.zero_le _) h
  have jgD : q_imp (x0 ≠ 37 ∧ x0 ≠ 38 ∧ x0 ≠ 42 ∧ x0 ≠ 43 ∧ x0 ≠ 45 ∧ x0 ≠ 47 ∧ x0 ≠ 60 ∧ x0 ≠ 62 ∧ x0 ≠ 94 ∧ x0 ≠ 124) (J ω m_Sc_operatorSign d mc ms 0 0 119 [(0, .int (zI x0))] [] σ Q) := by
    intro c
    have h := gD c
    refine j_bipush (v := zI 47) d_Sc_operatorSign_119 (by decide) ?_
    exact zj_iret d_Sc_operatorSign_121 rfl (Nat.zero_le _) (Nat.zero_le _) h
  by_cases cs37 : x0 = 37
  · exact j_topE (v := zI 37) (by rw [cs37]) (j_lookup 104 d_Sc_operatorSign_1 (by decide) (by rfl) (by decide) (jg104 cs37))
  by_cases cs38 : x0 = 38
  · exact j_topE (v := zI 38) (by rw [cs38]) (j_lookup 107 d_Sc_operatorSign_1 (by decide) (by rfl) (by decide) (jg107 cs38))
  by_cases cs42 : x0 = 42
  · exact j_topE (v := zI 42) (by rw [cs42]) (j_lookup 98 d_Sc_operatorSign_1 (by decide) (by rfl) (by decide) (jg98 cs42))
  by_cases cs43 : x0 = 43
  · exact j_topE (v := zI 43) (by rw [cs43]) (j_lookup 92 d_Sc_operatorSign_1 (by decide) (by rfl) (by decide) (jg92 cs43))
  by_cases cs45 : x0 = 45
  · exact j_topE (v := zI 45) (by rw [cs45]) (j_lookup 95 d_Sc_operatorSign_1 (by decide) (by rfl) (by decide) (jg95 cs45))
  by_cases cs47 : x0 = 47
  · exact j_topE (v := zI 47) (by rw [cs47]) (j_lookup 101 d_Sc_operatorSign_1 (by decide) (by rfl) (by decide) (jg101 cs47))
  by_cases cs60 : x0 = 60
  · exact j_topE (v := zI 60) (by rw [cs60]) (j_lookup 113 d_Sc_operatorSign_1 (by decide) (by rfl) (by decide) (jg113 cs60))
  by_cases cs62 : x0 = 62
  · exact j_topE (v := zI 62) (by rw [cs62]) (j_lookup 116 d_Sc_operatorSign_1 (by decide) (by rfl) (by decide) (jg116 cs62))
  by_cases cs94 : x0 = 94
  · exact j_topE (v := zI 94) (by rw [cs94]) (j_lookup 111 d_Sc_operatorSign_1 (by decide) (by rfl) (by decide) (jg111 cs94))
  by_cases cs124 : x0 = 124
  · exact j_topE (v := zI 124) (by rw [cs124]) (j_lookup 109 d_Sc_operatorSign_1 (by decide) (by rfl) (by decide) (jg109 cs124))
  exact zj_lookd 119 d_Sc_operatorSign_1 (by decide) r1 (by simp; exact o_Sc_operatorSign_1 cs37 cs38 cs42 cs43 cs45 cs47 cs60 cs62 cs94 cs124) (by decide) (jgD ⟨cs37, cs38, cs42, cs43, cs45, cs47, cs60, cs62, cs94, cs124⟩)
set_option maxHeartbeats 2000000 in
theorem b_Sc_advance_0 {ω : q_W} {σ : q_H} {Q : q_R → q_H → Prop} {d mc ms : Nat}   (hE : q_E σ) (h : inR ((z σ 2 4) - 1) ∧ q_imp ((z σ 2 8) ≥ ((z σ 2 4) - 1)) ((Q (.inl none) σ)) ∧ q_imp ((z σ 2 8) < ((z σ 2 4) - 1)) ((Q (.inl none) (zs σ 2 8 ((z σ 2 8) + 1))))) : J ω m_Sc_advance d mc ms 0 0 0 [(0, .ref 2)] [] σ Q := by
  refine j_aload_n d_Sc_advance_0 0 rfl ?_
  refine zj_getI (z σ 2 8) f_Sc_62 d_Sc_advance_1 (tg_2 hE) (q_okE hE (by decide)) (q_z _ _ _) ?_
  refine j_aload_n d_Sc_advance_4 0 rfl ?_
  refine zj_getI (z σ 2 4) f_Sc_65 d_Sc_advance_5 (tg_2 hE) (q_okE hE (by decide)) (q_z _ _ _) ?_
  refine j_iconst (v := zI 1) d_Sc_advance_8 (by decide) ?_
  refine zj_isub ((z σ 2 4) - 1) (by omega) d_Sc_advance_9 ?_
  obtain ⟨r1, h⟩ := h
  obtain ⟨h1, h2⟩ := h
  refine zj_icmp_ge 23 d_Sc_advance_10 (by decide) (z_R _ _ _) r1 (fun k2 => ?_) (fun k2 => ?_)
  · have h := h1 k2
    exact j_vret d_Sc_advance_23 rfl (Nat.zero_le _) (Nat.zero_le _) h
  · have h := h2 k2
    refine j_aload_n d_Sc_advance_13 0 rfl ?_
    refine j_dup d_Sc_advance_14 rfl ?_
    refine zj_getI (z σ 2 8) f_Sc_62 d_Sc_advance_15 (tg_2 hE) (q_okE hE (by decide)) (q_z _ _ _) ?_
    refine j_iconst (v := zI 1) d_Sc_advance_18 (by decide) ?_
    refine zj_iadd ((z σ 2 8) + 1) (by omega) d_Sc_advance_19 ?_
    refine zj_putI (g_Sc_62 _) d_Sc_advance_20 (tg_2 hE) (q_okE hE (by decide)) ?_
    exact j_vret d_Sc_advance_23 rfl (Nat.zero_le _) (Nat.zero_le _) h
