/-! String.indexOf; the reference's words; the stretches of its cut -/
section TopJ
variable {ω : q_W} {μ : q_M} {d mc ms cs sl pc : Nat} {L : List (Nat × Value)} {st : List Value} {σ : q_H} {Q : q_R → q_H → Prop}
theorem j_top2 {x y v w : Int32} (h : x = v) (g : y = w) (kk : J ω μ d mc ms cs sl pc L (.int v :: .int w :: st) σ Q) : J ω μ d mc ms cs sl pc L (.int x :: .int y :: st) σ Q := h ▸ g ▸ kk
end TopJ
def ixF (lst : List Int32) (b : Int32) : Nat → Nat → Int32
  | 0, _ => -1
  | n + 1, k => if lst.getD k 0 = b then nI k else ixF lst b n (k + 1)
/-- the letters before, and the next -/
def spF (lst : List Int32) : Nat → Int64
  | 0 => 0
  | k + 1 => (spF lst k <<< ((8 : Int32).toInt64 &&& 63)) ||| (lst.getD k 0 &&& 255).toInt64
theorem d_JL_canEncode_0 : decode m_JL_canEncode.2.1 0 = .ok (.iload_n 0, 1) := by decide +kernel
theorem d_JL_canEncode_1 : decode m_JL_canEncode.2.1 1 = .ok (.ifCond .lt 14, 3) := by decide +kernel
theorem d_JL_canEncode_4 : decode m_JL_canEncode.2.1 4 = .ok (.iload_n 0, 1) := by decide +kernel
theorem d_JL_canEncode_5 : decode m_JL_canEncode.2.1 5 = .ok (.sipush 255, 3) := by decide +kernel
theorem d_JL_canEncode_8 : decode m_JL_canEncode.2.1 8 = .ok (.if_icmp .gt 7, 3) := by decide +kernel
theorem d_JL_canEncode_11 : decode m_JL_canEncode.2.1 11 = .ok (.iconst 1, 1) := by decide +kernel
theorem d_JL_canEncode_12 : decode m_JL_canEncode.2.1 12 = .ok (.goto 4, 3) := by decide +kernel
theorem d_JL_canEncode_16 : decode m_JL_canEncode.2.1 16 = .ok (.ireturn, 1) := by decide +kernel
theorem d_JL_indexOfChar_0 : decode m_JL_indexOfChar.2.1 0 = .ok (.iload_n 1, 1) := by decide +kernel
theorem d_JL_indexOfChar_1 : decode m_JL_indexOfChar.2.1 1 = .ok (.i2b, 1) := by decide +kernel
theorem d_JL_indexOfChar_2 : decode m_JL_indexOfChar.2.1 2 = .ok (.istore 4, 2) := by decide +kernel
theorem d_JL_indexOfChar_4 : decode m_JL_indexOfChar.2.1 4 = .ok (.iload_n 2, 1) := by decide +kernel
theorem d_JL_indexOfChar_5 : decode m_JL_indexOfChar.2.1 5 = .ok (.istore 5, 2) := by decide +kernel
theorem d_JL_indexOfChar_7 : decode m_JL_indexOfChar.2.1 7 = .ok (.iload 5, 2) := by decide +kernel
theorem d_JL_indexOfChar_9 : decode m_JL_indexOfChar.2.1 9 = .ok (.iload_n 3, 1) := by decide +kernel
theorem d_JL_indexOfChar_10 : decode m_JL_indexOfChar.2.1 10 = .ok (.if_icmp .ge 21, 3) := by decide +kernel
theorem d_JL_indexOfChar_13 : decode m_JL_indexOfChar.2.1 13 = .ok (.aload_n 0, 1) := by decide +kernel
theorem d_JL_indexOfChar_14 : decode m_JL_indexOfChar.2.1 14 = .ok (.iload 5, 2) := by decide +kernel
theorem d_JL_indexOfChar_16 : decode m_JL_indexOfChar.2.1 16 = .ok (.baload, 1) := by decide +kernel
theorem d_JL_indexOfChar_17 : decode m_JL_indexOfChar.2.1 17 = .ok (.iload 4, 2) := by decide +kernel
theorem d_JL_indexOfChar_19 : decode m_JL_indexOfChar.2.1 19 = .ok (.if_icmp .ne 6, 3) := by decide +kernel
theorem d_JL_indexOfChar_22 : decode m_JL_indexOfChar.2.1 22 = .ok (.iload 5, 2) := by decide +kernel
theorem d_JL_indexOfChar_24 : decode m_JL_indexOfChar.2.1 24 = .ok (.ireturn, 1) := by decide +kernel
theorem d_JL_indexOfChar_25 : decode m_JL_indexOfChar.2.1 25 = .ok (.iinc 5 1, 3) := by decide +kernel
theorem d_JL_indexOfChar_28 : decode m_JL_indexOfChar.2.1 28 = .ok (.goto (-21), 3) := by decide +kernel
theorem d_JL_indexOfChar_31 : decode m_JL_indexOfChar.2.1 31 = .ok (.iconst (-1), 1) := by decide +kernel
theorem d_JL_indexOfChar_32 : decode m_JL_indexOfChar.2.1 32 = .ok (.ireturn, 1) := by decide +kernel
theorem d_JL_indexOf_0 : decode m_JL_indexOf.2.1 0 = .ok (.iload_n 1, 1) := by decide +kernel
theorem d_JL_indexOf_1 : decode m_JL_indexOf.2.1 1 = .ok (.invokestatic 88, 3) := by decide +kernel
theorem d_JL_indexOf_4 : decode m_JL_indexOf.2.1 4 = .ok (.ifCond .ne 5, 3) := by decide +kernel
theorem d_JL_indexOf_9 : decode m_JL_indexOf.2.1 9 = .ok (.iload_n 2, 1) := by decide +kernel
theorem d_JL_indexOf_10 : decode m_JL_indexOf.2.1 10 = .ok (.iconst 0, 1) := by decide +kernel
theorem d_JL_indexOf_11 : decode m_JL_indexOf.2.1 11 = .ok (.invokestatic 92, 3) := by decide +kernel
theorem d_JL_indexOf_14 : decode m_JL_indexOf.2.1 14 = .ok (.istore_n 2, 1) := by decide +kernel
theorem d_JL_indexOf_15 : decode m_JL_indexOf.2.1 15 = .ok (.iload_n 3, 1) := by decide +kernel
theorem d_JL_indexOf_16 : decode m_JL_indexOf.2.1 16 = .ok (.aload_n 0, 1) := by decide +kernel
theorem d_JL_indexOf_17 : decode m_JL_indexOf.2.1 17 = .ok (.arraylength, 1) := by decide +kernel
theorem d_JL_indexOf_18 : decode m_JL_indexOf.2.1 18 = .ok (.invokestatic 38, 3) := by decide +kernel
theorem d_JL_indexOf_21 : decode m_JL_indexOf.2.1 21 = .ok (.istore_n 3, 1) := by decide +kernel
theorem d_JL_indexOf_22 : decode m_JL_indexOf.2.1 22 = .ok (.iload_n 2, 1) := by decide +kernel
theorem d_JL_indexOf_23 : decode m_JL_indexOf.2.1 23 = .ok (.iload_n 3, 1) := by decide +kernel
theorem d_JL_indexOf_24 : decode m_JL_indexOf.2.1 24 = .ok (.if_icmp .lt 5, 3) := by decide +kernel
theorem d_JL_indexOf_29 : decode m_JL_indexOf.2.1 29 = .ok (.aload_n 0, 1) := by decide +kernel
theorem d_JL_indexOf_30 : decode m_JL_indexOf.2.1 30 = .ok (.iload_n 1, 1) := by decide +kernel
theorem d_JL_indexOf_31 : decode m_JL_indexOf.2.1 31 = .ok (.iload_n 2, 1) := by decide +kernel
theorem d_JL_indexOf_32 : decode m_JL_indexOf.2.1 32 = .ok (.iload_n 3, 1) := by decide +kernel
theorem d_JL_indexOf_33 : decode m_JL_indexOf.2.1 33 = .ok (.invokestatic 95, 3) := by decide +kernel
theorem d_JL_indexOf_36 : decode m_JL_indexOf.2.1 36 = .ok (.ireturn, 1) := by decide +kernel
theorem d_JS_indexOf_2_0 : decode m_JS_indexOf_2.2.1 0 = .ok (.aload_n 0, 1) := by decide +kernel
theorem d_JS_indexOf_2_1 : decode m_JS_indexOf_2.2.1 1 = .ok (.invokevirtual 492, 3) := by decide +kernel
theorem d_JS_indexOf_2_4 : decode m_JS_indexOf_2.2.1 4 = .ok (.ifCond .eq 19, 3) := by decide +kernel
theorem d_JS_indexOf_2_7 : decode m_JS_indexOf_2.2.1 7 = .ok (.aload_n 0, 1) := by decide +kernel
theorem d_JS_indexOf_2_8 : decode m_JS_indexOf_2.2.1 8 = .ok (.getfield 9, 3) := by decide +kernel
theorem d_JS_indexOf_2_11 : decode m_JS_indexOf_2.2.1 11 = .ok (.iload_n 1, 1) := by decide +kernel
theorem d_JS_indexOf_2_12 : decode m_JS_indexOf_2.2.1 12 = .ok (.iload_n 2, 1) := by decide +kernel
theorem d_JS_indexOf_2_13 : decode m_JS_indexOf_2.2.1 13 = .ok (.aload_n 0, 1) := by decide +kernel
theorem d_JS_indexOf_2_14 : decode m_JS_indexOf_2.2.1 14 = .ok (.invokevirtual 505, 3) := by decide +kernel
theorem d_JS_indexOf_2_17 : decode m_JS_indexOf_2.2.1 17 = .ok (.invokestatic 637, 3) := by decide +kernel
theorem d_JS_indexOf_2_20 : decode m_JS_indexOf_2.2.1 20 = .ok (.goto 16, 3) := by decide +kernel
theorem d_JS_indexOf_2_36 : decode m_JS_indexOf_2.2.1 36 = .ok (.ireturn, 1) := by decide +kernel
theorem d_JS_indexOf_0 : decode m_JS_indexOf.2.1 0 = .ok (.aload_n 0, 1) := by decide +kernel
theorem d_JS_indexOf_1 : decode m_JS_indexOf.2.1 1 = .ok (.iload_n 1, 1) := by decide +kernel
theorem d_JS_indexOf_2 : decode m_JS_indexOf.2.1 2 = .ok (.iconst 0, 1) := by decide +kernel
theorem d_JS_indexOf_3 : decode m_JS_indexOf.2.1 3 = .ok (.invokevirtual 633, 3) := by decide +kernel
theorem d_JS_indexOf_6 : decode m_JS_indexOf.2.1 6 = .ok (.ireturn, 1) := by decide +kernel
theorem d_M_spelled_0 : decode m_M_spelled.2.1 0 = .ok (.lconst 0, 1) := by decide +kernel
theorem d_M_spelled_1 : decode m_M_spelled.2.1 1 = .ok (.lstore_n 1, 1) := by decide +kernel
theorem d_M_spelled_2 : decode m_M_spelled.2.1 2 = .ok (.iconst 0, 1) := by decide +kernel
theorem d_M_spelled_3 : decode m_M_spelled.2.1 3 = .ok (.istore_n 3, 1) := by decide +kernel
theorem d_M_spelled_4 : decode m_M_spelled.2.1 4 = .ok (.iload_n 3, 1) := by decide +kernel
theorem d_M_spelled_5 : decode m_M_spelled.2.1 5 = .ok (.aload_n 0, 1) := by decide +kernel
theorem d_M_spelled_6 : decode m_M_spelled.2.1 6 = .ok (.invokevirtual 158, 3) := by decide +kernel
theorem d_M_spelled_9 : decode m_M_spelled.2.1 9 = .ok (.if_icmp .ge 21, 3) := by decide +kernel
theorem d_M_spelled_12 : decode m_M_spelled.2.1 12 = .ok (.lload_n 1, 1) := by decide +kernel
theorem d_M_spelled_13 : decode m_M_spelled.2.1 13 = .ok (.bipush 8, 2) := by decide +kernel
theorem d_M_spelled_15 : decode m_M_spelled.2.1 15 = .ok (.lshl, 1) := by decide +kernel
theorem d_M_spelled_16 : decode m_M_spelled.2.1 16 = .ok (.aload_n 0, 1) := by decide +kernel
theorem d_M_spelled_17 : decode m_M_spelled.2.1 17 = .ok (.iload_n 3, 1) := by decide +kernel
theorem d_M_spelled_18 : decode m_M_spelled.2.1 18 = .ok (.invokevirtual 164, 3) := by decide +kernel
theorem d_M_spelled_21 : decode m_M_spelled.2.1 21 = .ok (.i2l, 1) := by decide +kernel
theorem d_M_spelled_22 : decode m_M_spelled.2.1 22 = .ok (.lor, 1) := by decide +kernel
theorem d_M_spelled_23 : decode m_M_spelled.2.1 23 = .ok (.lstore_n 1, 1) := by decide +kernel
theorem d_M_spelled_24 : decode m_M_spelled.2.1 24 = .ok (.iinc 3 1, 3) := by decide +kernel
theorem d_M_spelled_27 : decode m_M_spelled.2.1 27 = .ok (.goto (-23), 3) := by decide +kernel
theorem d_M_spelled_30 : decode m_M_spelled.2.1 30 = .ok (.lload_n 1, 1) := by decide +kernel
theorem d_M_spelled_31 : decode m_M_spelled.2.1 31 = .ok (.lreturn, 1) := by decide +kernel
theorem d_M_cut_15 : decode m_M_cut.2.1 15 = .ok (.aload_n 0, 1) := by decide +kernel
theorem d_M_cut_16 : decode m_M_cut.2.1 16 = .ok (.iload_n 1, 1) := by decide +kernel
theorem d_M_cut_17 : decode m_M_cut.2.1 17 = .ok (.invokevirtual 186, 3) := by decide +kernel
theorem d_M_cut_20 : decode m_M_cut.2.1 20 = .ok (.istore_n 2, 1) := by decide +kernel
theorem d_M_cut_21 : decode m_M_cut.2.1 21 = .ok (.iload_n 2, 1) := by decide +kernel
theorem d_M_cut_22 : decode m_M_cut.2.1 22 = .ok (.bipush 32, 2) := by decide +kernel
theorem d_M_cut_24 : decode m_M_cut.2.1 24 = .ok (.if_icmp .eq 9, 3) := by decide +kernel
theorem d_M_cut_27 : decode m_M_cut.2.1 27 = .ok (.iload_n 2, 1) := by decide +kernel
theorem d_M_cut_28 : decode m_M_cut.2.1 28 = .ok (.bipush 10, 2) := by decide +kernel
theorem d_M_cut_30 : decode m_M_cut.2.1 30 = .ok (.if_icmp .ne 9, 3) := by decide +kernel
theorem d_M_cut_33 : decode m_M_cut.2.1 33 = .ok (.iinc 1 1, 3) := by decide +kernel
theorem d_M_cut_36 : decode m_M_cut.2.1 36 = .ok (.goto (-29), 3) := by decide +kernel
theorem d_M_cut_39 : decode m_M_cut.2.1 39 = .ok (.iload_n 1, 1) := by decide +kernel
theorem d_M_cut_40 : decode m_M_cut.2.1 40 = .ok (.istore_n 3, 1) := by decide +kernel
theorem d_M_cut_41 : decode m_M_cut.2.1 41 = .ok (.iload_n 2, 1) := by decide +kernel
theorem d_M_cut_42 : decode m_M_cut.2.1 42 = .ok (.invokestatic 189, 3) := by decide +kernel
theorem d_M_cut_45 : decode m_M_cut.2.1 45 = .ok (.ifCond .eq 87, 3) := by decide +kernel
theorem d_M_cut_48 : decode m_M_cut.2.1 48 = .ok (.lconst 0, 1) := by decide +kernel
theorem d_M_cut_49 : decode m_M_cut.2.1 49 = .ok (.lstore 4, 2) := by decide +kernel
theorem d_M_cut_51 : decode m_M_cut.2.1 51 = .ok (.aload_n 0, 1) := by decide +kernel
theorem d_M_cut_52 : decode m_M_cut.2.1 52 = .ok (.iload_n 1, 1) := by decide +kernel
theorem d_M_cut_53 : decode m_M_cut.2.1 53 = .ok (.invokevirtual 186, 3) := by decide +kernel
theorem d_M_cut_56 : decode m_M_cut.2.1 56 = .ok (.invokestatic 189, 3) := by decide +kernel
theorem d_M_cut_59 : decode m_M_cut.2.1 59 = .ok (.ifCond .eq 31, 3) := by decide +kernel
theorem d_M_cut_62 : decode m_M_cut.2.1 62 = .ok (.iload_n 1, 1) := by decide +kernel
theorem d_M_cut_63 : decode m_M_cut.2.1 63 = .ok (.iload_n 3, 1) := by decide +kernel
theorem d_M_cut_64 : decode m_M_cut.2.1 64 = .ok (.isub, 1) := by decide +kernel
theorem d_M_cut_65 : decode m_M_cut.2.1 65 = .ok (.bipush 8, 2) := by decide +kernel
theorem d_M_cut_67 : decode m_M_cut.2.1 67 = .ok (.if_icmp .ge 17, 3) := by decide +kernel
theorem d_M_cut_70 : decode m_M_cut.2.1 70 = .ok (.lload 4, 2) := by decide +kernel
theorem d_M_cut_72 : decode m_M_cut.2.1 72 = .ok (.bipush 8, 2) := by decide +kernel
theorem d_M_cut_74 : decode m_M_cut.2.1 74 = .ok (.lshl, 1) := by decide +kernel
theorem d_M_cut_75 : decode m_M_cut.2.1 75 = .ok (.aload_n 0, 1) := by decide +kernel
theorem d_M_cut_76 : decode m_M_cut.2.1 76 = .ok (.iload_n 1, 1) := by decide +kernel
theorem d_M_cut_77 : decode m_M_cut.2.1 77 = .ok (.invokevirtual 186, 3) := by decide +kernel
theorem d_M_cut_80 : decode m_M_cut.2.1 80 = .ok (.i2l, 1) := by decide +kernel
theorem d_M_cut_81 : decode m_M_cut.2.1 81 = .ok (.lor, 1) := by decide +kernel
theorem d_M_cut_82 : decode m_M_cut.2.1 82 = .ok (.lstore 4, 2) := by decide +kernel
theorem d_M_cut_84 : decode m_M_cut.2.1 84 = .ok (.iinc 1 1, 3) := by decide +kernel
theorem d_M_cut_87 : decode m_M_cut.2.1 87 = .ok (.goto (-36), 3) := by decide +kernel
theorem d_M_cut_90 : decode m_M_cut.2.1 90 = .ok (.iload_n 1, 1) := by decide +kernel
theorem d_M_cut_91 : decode m_M_cut.2.1 91 = .ok (.iload_n 3, 1) := by decide +kernel
theorem d_M_cut_92 : decode m_M_cut.2.1 92 = .ok (.isub, 1) := by decide +kernel
theorem d_M_cut_93 : decode m_M_cut.2.1 93 = .ok (.bipush 8, 2) := by decide +kernel
theorem d_M_cut_95 : decode m_M_cut.2.1 95 = .ok (.if_icmp .le 12, 3) := by decide +kernel
theorem d_M_cut_98 : decode m_M_cut.2.1 98 = .ok (.aload_n 0, 1) := by decide +kernel
theorem d_M_cut_99 : decode m_M_cut.2.1 99 = .ok (.sipush 274, 3) := by decide +kernel
theorem d_M_cut_102 : decode m_M_cut.2.1 102 = .ok (.iload_n 3, 1) := by decide +kernel
theorem d_M_cut_103 : decode m_M_cut.2.1 103 = .ok (.invokevirtual 193, 3) := by decide +kernel
theorem d_M_cut_106 : decode m_M_cut.2.1 106 = .ok (.return_, 1) := by decide +kernel
theorem d_M_cut_107 : decode m_M_cut.2.1 107 = .ok (.aload_n 0, 1) := by decide +kernel
theorem d_M_cut_108 : decode m_M_cut.2.1 108 = .ok (.getfield 23, 3) := by decide +kernel
theorem d_M_cut_111 : decode m_M_cut.2.1 111 = .ok (.aload_n 0, 1) := by decide +kernel
theorem d_M_cut_112 : decode m_M_cut.2.1 112 = .ok (.getfield 155, 3) := by decide +kernel
theorem d_M_cut_115 : decode m_M_cut.2.1 115 = .ok (.lload 4, 2) := by decide +kernel
theorem d_M_cut_117 : decode m_M_cut.2.1 117 = .ok (.lastore, 1) := by decide +kernel
theorem d_M_cut_118 : decode m_M_cut.2.1 118 = .ok (.aload_n 0, 1) := by decide +kernel
theorem d_M_cut_119 : decode m_M_cut.2.1 119 = .ok (.aload_n 0, 1) := by decide +kernel
theorem d_M_cut_120 : decode m_M_cut.2.1 120 = .ok (.lload 4, 2) := by decide +kernel
theorem d_M_cut_122 : decode m_M_cut.2.1 122 = .ok (.invokevirtual 197, 3) := by decide +kernel
theorem d_M_cut_125 : decode m_M_cut.2.1 125 = .ok (.iload_n 3, 1) := by decide +kernel
theorem d_M_cut_126 : decode m_M_cut.2.1 126 = .ok (.invokevirtual 193, 3) := by decide +kernel
theorem d_M_cut_129 : decode m_M_cut.2.1 129 = .ok (.goto 177, 3) := by decide +kernel
theorem d_M_cut_132 : decode m_M_cut.2.1 132 = .ok (.iload_n 2, 1) := by decide +kernel
theorem d_M_cut_133 : decode m_M_cut.2.1 133 = .ok (.invokestatic 201, 3) := by decide +kernel
theorem d_M_cut_136 : decode m_M_cut.2.1 136 = .ok (.ifCond .eq 90, 3) := by decide +kernel
theorem d_M_cut_139 : decode m_M_cut.2.1 139 = .ok (.iconst 0, 1) := by decide +kernel
theorem d_M_cut_140 : decode m_M_cut.2.1 140 = .ok (.istore 4, 2) := by decide +kernel
theorem d_M_cut_142 : decode m_M_cut.2.1 142 = .ok (.aload_n 0, 1) := by decide +kernel
theorem d_M_cut_143 : decode m_M_cut.2.1 143 = .ok (.iload_n 1, 1) := by decide +kernel
theorem d_M_cut_144 : decode m_M_cut.2.1 144 = .ok (.invokevirtual 186, 3) := by decide +kernel
theorem d_M_cut_147 : decode m_M_cut.2.1 147 = .ok (.invokestatic 201, 3) := by decide +kernel
theorem d_M_cut_150 : decode m_M_cut.2.1 150 = .ok (.ifCond .eq 31, 3) := by decide +kernel
theorem d_M_cut_153 : decode m_M_cut.2.1 153 = .ok (.iload 4, 2) := by decide +kernel
theorem d_M_cut_155 : decode m_M_cut.2.1 155 = .ok (.bipush 10, 2) := by decide +kernel
theorem d_M_cut_157 : decode m_M_cut.2.1 157 = .ok (.imul, 1) := by decide +kernel
theorem d_M_cut_158 : decode m_M_cut.2.1 158 = .ok (.aload_n 0, 1) := by decide +kernel
theorem d_M_cut_159 : decode m_M_cut.2.1 159 = .ok (.iload_n 1, 1) := by decide +kernel
theorem d_M_cut_160 : decode m_M_cut.2.1 160 = .ok (.invokevirtual 186, 3) := by decide +kernel
theorem d_M_cut_163 : decode m_M_cut.2.1 163 = .ok (.iadd, 1) := by decide +kernel
theorem d_M_cut_164 : decode m_M_cut.2.1 164 = .ok (.bipush 48, 2) := by decide +kernel
theorem d_M_cut_166 : decode m_M_cut.2.1 166 = .ok (.isub, 1) := by decide +kernel
theorem d_M_cut_167 : decode m_M_cut.2.1 167 = .ok (.sipush 1000, 3) := by decide +kernel
theorem d_M_cut_170 : decode m_M_cut.2.1 170 = .ok (.invokestatic 204, 3) := by decide +kernel
theorem d_M_cut_173 : decode m_M_cut.2.1 173 = .ok (.istore 4, 2) := by decide +kernel
theorem d_M_cut_175 : decode m_M_cut.2.1 175 = .ok (.iinc 1 1, 3) := by decide +kernel
theorem d_M_cut_178 : decode m_M_cut.2.1 178 = .ok (.goto (-36), 3) := by decide +kernel
theorem d_M_cut_181 : decode m_M_cut.2.1 181 = .ok (.aload_n 0, 1) := by decide +kernel
theorem d_M_cut_182 : decode m_M_cut.2.1 182 = .ok (.getfield 20, 3) := by decide +kernel
theorem d_M_cut_185 : decode m_M_cut.2.1 185 = .ok (.aload_n 0, 1) := by decide +kernel
theorem d_M_cut_186 : decode m_M_cut.2.1 186 = .ok (.getfield 155, 3) := by decide +kernel
theorem d_M_cut_189 : decode m_M_cut.2.1 189 = .ok (.iload 4, 2) := by decide +kernel
theorem d_M_cut_191 : decode m_M_cut.2.1 191 = .ok (.iastore, 1) := by decide +kernel
theorem d_M_cut_192 : decode m_M_cut.2.1 192 = .ok (.aload_n 0, 1) := by decide +kernel
theorem d_M_cut_193 : decode m_M_cut.2.1 193 = .ok (.iload 4, 2) := by decide +kernel
theorem d_M_cut_195 : decode m_M_cut.2.1 195 = .ok (.sipush 255, 3) := by decide +kernel
theorem d_M_cut_198 : decode m_M_cut.2.1 198 = .ok (.if_icmp .le 9, 3) := by decide +kernel
theorem d_M_cut_201 : decode m_M_cut.2.1 201 = .ok (.sipush 274, 3) := by decide +kernel
theorem d_M_cut_204 : decode m_M_cut.2.1 204 = .ok (.goto 6, 3) := by decide +kernel
theorem d_M_cut_207 : decode m_M_cut.2.1 207 = .ok (.sipush 264, 3) := by decide +kernel
theorem d_M_cut_210 : decode m_M_cut.2.1 210 = .ok (.iload_n 3, 1) := by decide +kernel
theorem d_M_cut_211 : decode m_M_cut.2.1 211 = .ok (.invokevirtual 193, 3) := by decide +kernel
theorem d_M_cut_214 : decode m_M_cut.2.1 214 = .ok (.iload 4, 2) := by decide +kernel
theorem d_M_cut_216 : decode m_M_cut.2.1 216 = .ok (.sipush 255, 3) := by decide +kernel
theorem d_M_cut_219 : decode m_M_cut.2.1 219 = .ok (.if_icmp .le 4, 3) := by decide +kernel
theorem d_M_cut_222 : decode m_M_cut.2.1 222 = .ok (.return_, 1) := by decide +kernel
theorem d_M_cut_223 : decode m_M_cut.2.1 223 = .ok (.goto 83, 3) := by decide +kernel
theorem d_M_cut_226 : decode m_M_cut.2.1 226 = .ok (.iload_n 2, 1) := by decide +kernel
theorem d_M_cut_227 : decode m_M_cut.2.1 227 = .ok (.aload_n 0, 1) := by decide +kernel
theorem d_M_cut_228 : decode m_M_cut.2.1 228 = .ok (.iload_n 1, 1) := by decide +kernel
theorem d_M_cut_229 : decode m_M_cut.2.1 229 = .ok (.iconst 1, 1) := by decide +kernel
theorem d_M_cut_230 : decode m_M_cut.2.1 230 = .ok (.iadd, 1) := by decide +kernel
theorem d_M_cut_231 : decode m_M_cut.2.1 231 = .ok (.invokevirtual 186, 3) := by decide +kernel
theorem d_M_cut_234 : decode m_M_cut.2.1 234 = .ok (.invokestatic 210, 3) := by decide +kernel
theorem d_M_cut_237 : decode m_M_cut.2.1 237 = .ok (.istore 4, 2) := by decide +kernel
theorem d_M_cut_239 : decode m_M_cut.2.1 239 = .ok (.ldc 213, 2) := by decide +kernel
theorem d_M_cut_241 : decode m_M_cut.2.1 241 = .ok (.iload_n 2, 1) := by decide +kernel
theorem d_M_cut_242 : decode m_M_cut.2.1 242 = .ok (.invokevirtual 215, 3) := by decide +kernel
theorem d_M_cut_245 : decode m_M_cut.2.1 245 = .ok (.ifCond .lt 7, 3) := by decide +kernel
theorem d_M_cut_248 : decode m_M_cut.2.1 248 = .ok (.iconst 1, 1) := by decide +kernel
theorem d_M_cut_249 : decode m_M_cut.2.1 249 = .ok (.goto 4, 3) := by decide +kernel
theorem d_M_cut_252 : decode m_M_cut.2.1 252 = .ok (.iconst 0, 1) := by decide +kernel
theorem d_M_cut_253 : decode m_M_cut.2.1 253 = .ok (.istore 5, 2) := by decide +kernel
theorem d_M_cut_255 : decode m_M_cut.2.1 255 = .ok (.aload_n 0, 1) := by decide +kernel
theorem d_M_cut_256 : decode m_M_cut.2.1 256 = .ok (.iload 4, 2) := by decide +kernel
theorem d_M_cut_258 : decode m_M_cut.2.1 258 = .ok (.ifCond .eq 8, 3) := by decide +kernel
theorem d_M_cut_261 : decode m_M_cut.2.1 261 = .ok (.iload 4, 2) := by decide +kernel
theorem d_M_cut_263 : decode m_M_cut.2.1 263 = .ok (.goto 15, 3) := by decide +kernel
theorem d_M_cut_266 : decode m_M_cut.2.1 266 = .ok (.iload 5, 2) := by decide +kernel
theorem d_M_cut_268 : decode m_M_cut.2.1 268 = .ok (.ifCond .eq 7, 3) := by decide +kernel
theorem d_M_cut_271 : decode m_M_cut.2.1 271 = .ok (.iload_n 2, 1) := by decide +kernel
theorem d_M_cut_272 : decode m_M_cut.2.1 272 = .ok (.goto 6, 3) := by decide +kernel
theorem d_M_cut_275 : decode m_M_cut.2.1 275 = .ok (.sipush 274, 3) := by decide +kernel
theorem d_M_cut_278 : decode m_M_cut.2.1 278 = .ok (.iload_n 3, 1) := by decide +kernel
theorem d_M_cut_279 : decode m_M_cut.2.1 279 = .ok (.invokevirtual 193, 3) := by decide +kernel
theorem d_M_cut_282 : decode m_M_cut.2.1 282 = .ok (.iload 4, 2) := by decide +kernel
theorem d_M_cut_284 : decode m_M_cut.2.1 284 = .ok (.ifCond .ne 9, 3) := by decide +kernel
theorem d_M_cut_287 : decode m_M_cut.2.1 287 = .ok (.iload 5, 2) := by decide +kernel
theorem d_M_cut_289 : decode m_M_cut.2.1 289 = .ok (.ifCond .ne 4, 3) := by decide +kernel
theorem d_M_cut_292 : decode m_M_cut.2.1 292 = .ok (.return_, 1) := by decide +kernel
theorem d_M_cut_293 : decode m_M_cut.2.1 293 = .ok (.iload_n 1, 1) := by decide +kernel
theorem d_M_cut_294 : decode m_M_cut.2.1 294 = .ok (.iload 4, 2) := by decide +kernel
theorem d_M_cut_296 : decode m_M_cut.2.1 296 = .ok (.ifCond .eq 7, 3) := by decide +kernel
theorem d_M_cut_299 : decode m_M_cut.2.1 299 = .ok (.iconst 2, 1) := by decide +kernel
theorem d_M_cut_300 : decode m_M_cut.2.1 300 = .ok (.goto 4, 3) := by decide +kernel
theorem d_M_cut_303 : decode m_M_cut.2.1 303 = .ok (.iconst 1, 1) := by decide +kernel
theorem d_M_cut_304 : decode m_M_cut.2.1 304 = .ok (.iadd, 1) := by decide +kernel
theorem d_M_cut_305 : decode m_M_cut.2.1 305 = .ok (.istore_n 1, 1) := by decide +kernel
theorem d_M_cut_306 : decode m_M_cut.2.1 306 = .ok (.goto (-299), 3) := by decide +kernel
theorem cd_JL_canEncode : q_cd m_JL_canEncode := ⟨by decide +kernel, List.mem_of_getElem? (i := 4) (by decide +kernel), Or.inl ⟨rfl, List.mem_of_getElem? (i := 1810) (by decide +kernel)⟩⟩
theorem cS_JL_88 : q_CS "java/lang/StringLatin1" 88 m_JL_canEncode 1 := ⟨⟨cd_JL_canEncode, by decide, by decide, by decide, by decide +kernel⟩, Or.inl (List.mem_of_getElem? (i := 1808) (by decide +kernel)), List.mem_of_getElem? (i := 1809) (by decide +kernel)⟩
theorem cd_JL_indexOfChar : q_cd m_JL_indexOfChar := ⟨by decide +kernel, List.mem_of_getElem? (i := 4) (by decide +kernel), Or.inl ⟨rfl, List.mem_of_getElem? (i := 1815) (by decide +kernel)⟩⟩
theorem cS_JL_95 : q_CS "java/lang/StringLatin1" 95 m_JL_indexOfChar 4 := ⟨⟨cd_JL_indexOfChar, by decide, by decide, by decide, by decide +kernel⟩, Or.inl (List.mem_of_getElem? (i := 1813) (by decide +kernel)), List.mem_of_getElem? (i := 1814) (by decide +kernel)⟩
theorem cvs_JS_505 : q_CVS "java/lang/String" 505 m_JS_length 0 := ⟨⟨cd_JS_length, by decide, by decide, by decide, by decide +kernel⟩, Or.inl (List.mem_of_getElem? (i := 1804) (by decide +kernel)), List.mem_of_getElem? (i := 50) (by decide +kernel), List.mem_append_right _ (List.mem_of_getElem? (i := 51) (by decide +kernel))⟩
theorem cd_JL_indexOf : q_cd m_JL_indexOf := ⟨by decide +kernel, List.mem_of_getElem? (i := 4) (by decide +kernel), Or.inl ⟨rfl, List.mem_of_getElem? (i := 1807) (by decide +kernel)⟩⟩
theorem cS_JS_637 : q_CS "java/lang/String" 637 m_JL_indexOf 4 := ⟨⟨cd_JL_indexOf, by decide, by decide, by decide, by decide +kernel⟩, Or.inl (List.mem_of_getElem? (i := 1805) (by decide +kernel)), List.mem_of_getElem? (i := 1806) (by decide +kernel)⟩
theorem cd_JS_indexOf_2 : q_cd m_JS_indexOf_2 := ⟨by decide +kernel, List.mem_of_getElem? (i := 3) (by decide +kernel), Or.inl ⟨rfl, List.mem_of_getElem? (i := 1803) (by decide +kernel)⟩⟩
theorem cvs_JS_633 : q_CVS "java/lang/String" 633 m_JS_indexOf_2 2 := ⟨⟨cd_JS_indexOf_2, by decide, by decide, by decide, by decide +kernel⟩, Or.inl (List.mem_of_getElem? (i := 1800) (by decide +kernel)), List.mem_of_getElem? (i := 1801) (by decide +kernel), List.mem_append_right _ (List.mem_of_getElem? (i := 1802) (by decide +kernel))⟩
theorem cvs_M_158 : q_CVS "ProofHallModel" 158 m_JS_length 0 := ⟨⟨cd_JS_length, by decide, by decide, by decide, by decide +kernel⟩, Or.inl (List.mem_of_getElem? (i := 1780) (by decide +kernel)), List.mem_of_getElem? (i := 50) (by decide +kernel), List.mem_append_right _ (List.mem_of_getElem? (i := 51) (by decide +kernel))⟩
theorem cvs_M_164 : q_CVS "ProofHallModel" 164 m_JS_charAt 1 := ⟨⟨cd_JS_charAt, by decide, by decide, by decide, by decide +kernel⟩, Or.inl (List.mem_of_getElem? (i := 1781) (by decide +kernel)), List.mem_of_getElem? (i := 61) (by decide +kernel), List.mem_append_right _ (List.mem_of_getElem? (i := 62) (by decide +kernel))⟩
theorem cd_M_look : q_cd m_M_look := ⟨by decide +kernel, List.mem_of_getElem? (i := 17) (by decide +kernel), Or.inl ⟨rfl, List.mem_of_getElem? (i := 1764) (by decide +kernel)⟩⟩
theorem cV_M_186 : q_CV "ProofHallModel" 186 12 m_M_look 1 := ⟨⟨cd_M_look, by decide, by decide, by decide, by decide +kernel⟩, Or.inl (List.mem_of_getElem? (i := 1761) (by decide +kernel)), List.mem_of_getElem? (i := 1763) (by decide +kernel), _, _, _, rfl, by decide +kernel⟩
theorem cd_M_letter : q_cd m_M_letter := ⟨by decide +kernel, List.mem_of_getElem? (i := 17) (by decide +kernel), Or.inl ⟨rfl, List.mem_of_getElem? (i := 1767) (by decide +kernel)⟩⟩
theorem cS_M_189 : q_CS "ProofHallModel" 189 m_M_letter 1 := ⟨⟨cd_M_letter, by decide, by decide, by decide, by decide +kernel⟩, Or.inl (List.mem_of_getElem? (i := 1765) (by decide +kernel)), List.mem_of_getElem? (i := 1766) (by decide +kernel)⟩
theorem cd_M_digit : q_cd m_M_digit := ⟨by decide +kernel, List.mem_of_getElem? (i := 17) (by decide +kernel), Or.inl ⟨rfl, List.mem_of_getElem? (i := 1790) (by decide +kernel)⟩⟩
theorem cS_M_201 : q_CS "ProofHallModel" 201 m_M_digit 1 := ⟨⟨cd_M_digit, by decide, by decide, by decide, by decide +kernel⟩, Or.inl (List.mem_of_getElem? (i := 1788) (by decide +kernel)), List.mem_of_getElem? (i := 1789) (by decide +kernel)⟩
theorem cd_M_pair : q_cd m_M_pair := ⟨by decide +kernel, List.mem_of_getElem? (i := 17) (by decide +kernel), Or.inl ⟨rfl, List.mem_of_getElem? (i := 1794) (by decide +kernel)⟩⟩
theorem cS_M_210 : q_CS "ProofHallModel" 210 m_M_pair 2 := ⟨⟨cd_M_pair, by decide, by decide, by decide, by decide +kernel⟩, Or.inl (List.mem_of_getElem? (i := 1792) (by decide +kernel)), List.mem_of_getElem? (i := 1793) (by decide +kernel)⟩
theorem cd_JS_indexOf : q_cd m_JS_indexOf := ⟨by decide +kernel, List.mem_of_getElem? (i := 3) (by decide +kernel), Or.inl ⟨rfl, List.mem_of_getElem? (i := 1799) (by decide +kernel)⟩⟩
theorem cvs_M_215 : q_CVS "ProofHallModel" 215 m_JS_indexOf 1 := ⟨⟨cd_JS_indexOf, by decide, by decide, by decide, by decide +kernel⟩, Or.inl (List.mem_of_getElem? (i := 1796) (by decide +kernel)), List.mem_of_getElem? (i := 1797) (by decide +kernel), List.mem_append_right _ (List.mem_of_getElem? (i := 1798) (by decide +kernel))⟩
theorem cd_M_word : q_cd m_M_word := ⟨by decide +kernel, List.mem_of_getElem? (i := 17) (by decide +kernel), Or.inl ⟨rfl, List.mem_of_getElem? (i := 1775) (by decide +kernel)⟩⟩
theorem cV_M_197 : q_CV "ProofHallModel" 197 12 m_M_word 1 := ⟨⟨cd_M_word, by decide, by decide, by decide, by decide +kernel⟩, Or.inl (List.mem_of_getElem? (i := 1772) (by decide +kernel)), List.mem_of_getElem? (i := 1774) (by decide +kernel), _, _, _, rfl, by decide +kernel⟩
set_option maxHeartbeats 1000000 in
theorem c_JL_canEncode {ω : q_W} {σ : q_H} {x : Int32} (h0 : ¬ x < 0) (h1 : ¬ 255 < x) : J ω m_JL_canEncode 0 0 0 0 0 0 [(0, .int x)] [] σ (fun r τ => r = .inl (some (.int 1)) ∧ τ = σ) := by
  refine j_iload_n d_JL_canEncode_0 0 rfl ?_
  refine j_if_lt 15 d_JL_canEncode_1 (by decide) (fun h => absurd h h0) (fun _ => ?_)
  refine j_iload_n d_JL_canEncode_4 0 rfl ?_
  refine j_sipush (v := 255) d_JL_canEncode_5 (by decide) ?_
  refine j_icmp_gt 15 d_JL_canEncode_8 (by decide) (fun h => absurd h h1) (fun _ => ?_)
  refine j_iconst (v := 1) d_JL_canEncode_11 (by decide) ?_
  refine j_goto 16 d_JL_canEncode_12 (by decide) ?_
  exact j_nret d_JL_canEncode_16 rfl (by decide) (by decide) (by decide) ⟨rfl, rfl⟩
set_option maxHeartbeats 1000000 in
theorem l_JL_indexOfChar {ω : q_W} {σ : q_H} {i : Nat} {lst : List Int32} (hm : (1000100 + i, FieldType.byte, lst) ∈ q_olds) (hlen : lst.length < 65536) {b : Int32} : ∀ n k, k + n = lst.length → J ω m_JL_indexOfChar 0 0 0 0 0 7 [(5, .int (nI k)), (4, .int b), (0, .ref (1000100 + i)), (3, .int (nI lst.length))] [] σ (fun r τ => r = .inl (some (.int (ixF lst b n k))) ∧ τ = σ) := by
  intro n
  induction n with
  | zero =>
    intro k hk
    show J ω m_JL_indexOfChar 0 0 0 0 0 7 [(5, .int (nI k)), (4, .int b), (0, .ref (1000100 + i)), (3, .int (nI lst.length))] [] σ (fun r τ => r = .inl (some (.int (-1))) ∧ τ = σ)
    refine j_iload d_JL_indexOfChar_7 0 rfl ?_
    refine j_iload_n d_JL_indexOfChar_9 3 rfl ?_
    refine j_icmp_ge 31 d_JL_indexOfChar_10 (by decide) (fun _ => ?_) (fun h => absurd (nI_le (by omega) (by omega)) h)
    refine j_iconst (v := (-1)) d_JL_indexOfChar_31 (by decide) ?_
    exact j_iret d_JL_indexOfChar_32 rfl (by decide) (by decide) ⟨rfl, rfl⟩
  | succ n ih =>
    intro k hkn
    have hk : k < lst.length := by omega
    show J ω m_JL_indexOfChar 0 0 0 0 0 7 [(5, .int (nI k)), (4, .int b), (0, .ref (1000100 + i)), (3, .int (nI lst.length))] [] σ (fun r τ => r = .inl (some (.int (if lst.getD k 0 = b then nI k else ixF lst b n (k + 1)))) ∧ τ = σ)
    refine j_iload d_JL_indexOfChar_7 0 rfl ?_
    refine j_iload_n d_JL_indexOfChar_9 3 rfl ?_
    refine j_icmp_ge 31 d_JL_indexOfChar_10 (by decide) (fun h => absurd h (nI_ge hk (by omega))) (fun _ => ?_)
    refine j_aload_n d_JL_indexOfChar_13 2 rfl ?_
    refine j_iload d_JL_indexOfChar_14 0 rfl ?_
    refine j_baldO k hm (by omega) d_JL_indexOfChar_16 rfl hk (by omega) ?_
    refine j_iload d_JL_indexOfChar_17 1 rfl ?_
    refine j_icmp_ne 25 d_JL_indexOfChar_19 (by decide) (fun hne => ?_) (fun he => ?_)
    · skip
      refine j_iinc (v := nI (k + 1)) (L' := [(5, .int (nI (k + 1))), (4, .int b), (0, .ref (1000100 + i)), (3, .int (nI lst.length))]) d_JL_indexOfChar_25 0 rfl (nI_succ k).symm (by decide) rfl ?_
      refine j_goto 7 d_JL_indexOfChar_28 (by decide) ?_
      rw [if_neg hne]
      exact ih (k + 1) (by omega)
    · skip
      refine j_iload d_JL_indexOfChar_22 0 rfl ?_
      exact j_iret d_JL_indexOfChar_24 rfl (by decide) (by decide) ⟨by rw [if_pos he], rfl⟩
set_option maxHeartbeats 1000000 in
theorem c_JL_indexOfChar {ω : q_W} {σ : q_H} {i : Nat} {lst : List Int32} (hm : (1000100 + i, FieldType.byte, lst) ∈ q_olds) (hlen : lst.length < 65536) {x : Int32} : J ω m_JL_indexOfChar 0 0 0 0 0 0 [(0, .ref (1000100 + i)), (1, .int x), (2, .int (nI 0)), (3, .int (nI lst.length))] [] σ (fun r τ => r = .inl (some (.int (ixF lst x.toInt8.toInt32 lst.length 0))) ∧ τ = σ) := by
  refine j_iload_n d_JL_indexOfChar_0 1 rfl ?_
  refine j_i2b d_JL_indexOfChar_1 ?_
  refine j_istore (L' := [(4, .int x.toInt8.toInt32), (0, .ref (1000100 + i)), (1, .int x), (2, .int (nI 0)), (3, .int (nI lst.length))]) d_JL_indexOfChar_2 (by decide) rfl ?_
  refine j_iload_n d_JL_indexOfChar_4 3 rfl ?_
  refine j_istore (L' := [(5, .int (nI 0)), (4, .int x.toInt8.toInt32), (0, .ref (1000100 + i)), (1, .int x), (2, .int (nI 0)), (3, .int (nI lst.length))]) d_JL_indexOfChar_5 (by decide) rfl ?_
  refine j_sel [0, 1, 2, 5] (L' := [(5, .int (nI 0)), (4, .int x.toInt8.toInt32), (0, .ref (1000100 + i)), (3, .int (nI lst.length))]) rfl ?_
  exact l_JL_indexOfChar hm hlen lst.length 0 (by omega)
set_option maxHeartbeats 1000000 in
theorem c_JL_indexOf {ω : q_W} {σ : q_H} {i : Nat} {lst : List Int32} (hm : (1000100 + i, FieldType.byte, lst) ∈ q_olds) (hlen : lst.length < 65536) {x : Int32} (hpos : 0 < lst.length) (h0 : ¬ x < 0) (h1 : ¬ 255 < x) : J ω m_JL_indexOf 1 0 0 0 0 0 [(0, .ref (1000100 + i)), (1, .int x), (2, .int (nI 0)), (3, .int (nI lst.length))] [] σ (fun r τ => r = .inl (some (.int (ixF lst x.toInt8.toInt32 lst.length 0))) ∧ τ = σ) := by
  refine j_iload_n d_JL_indexOf_0 1 rfl ?_
  refine j_callS m_JL_canEncode [.int x] [] 0 0 0 cS_JL_88 d_JL_indexOf_1 rfl rfl (Nat.le_of_ble_eq_true rfl) (Nat.le_of_ble_eq_true rfl) (Nat.le_of_ble_eq_true rfl) (Nat.le_of_ble_eq_true rfl) (Nat.le_of_ble_eq_true rfl) (c_JL_canEncode h0 h1) (fun v τ h => ?_) (fun x τ h => absurd h.1 (by simp))
  obtain ⟨h1, rfl⟩ := h
  cases h1
  refine j_if_ne 9 d_JL_indexOf_4 (by decide) (fun _ => ?_) (fun h => absurd h (by decide))
  refine j_iload_n d_JL_indexOf_9 2 rfl ?_
  refine j_iconst (v := nI 0) d_JL_indexOf_10 (by decide) ?_
  refine j_top2 (v := zI 0) (w := zI 0) (by decide) (by decide) ?_
  refine zj_max (List.mem_of_getElem? (i := 1811) (by decide +kernel)) d_JL_indexOf_11 (by decide) (Nat.le_of_ble_eq_true rfl) (by decide) (by decide) ⟨by decide, by decide⟩ ⟨by decide, by decide⟩ ?_
  refine j_topE (v := nI 0) (by decide) ?_
  refine j_istore_n (L' := [(2, .int (nI 0)), (0, .ref (1000100 + i)), (1, .int x), (3, .int (nI lst.length))]) d_JL_indexOf_14 (by decide) rfl ?_
  refine j_iload_n d_JL_indexOf_15 3 rfl ?_
  refine j_aload_n d_JL_indexOf_16 1 rfl ?_
  refine j_alenO hm (by omega) d_JL_indexOf_17 ?_
  refine j_top2 (v := zI (lst.length : Int)) (w := zI (lst.length : Int)) (nI_zI _) (nI_zI _) ?_
  refine zj_min (List.mem_of_getElem? (i := 1812) (by decide +kernel)) d_JL_indexOf_18 (by decide) (Nat.le_of_ble_eq_true rfl) (by decide) (by decide) ⟨by omega, by omega⟩ ⟨by omega, by omega⟩ ?_
  refine j_topE (v := nI lst.length) (by rw [Int.min_self, ← nI_zI]) ?_
  refine j_istore_n (L' := [(3, .int (nI lst.length)), (2, .int (nI 0)), (0, .ref (1000100 + i)), (1, .int x)]) d_JL_indexOf_21 (by decide) rfl ?_
  refine j_iload_n d_JL_indexOf_22 1 rfl ?_
  refine j_iload_n d_JL_indexOf_23 0 rfl ?_
  refine j_icmp_lt 29 d_JL_indexOf_24 (by decide) (fun _ => ?_) (fun h => absurd (nI_lt hpos (by omega)) h)
  refine j_aload_n d_JL_indexOf_29 2 rfl ?_
  refine j_iload_n d_JL_indexOf_30 3 rfl ?_
  refine j_iload_n d_JL_indexOf_31 1 rfl ?_
  refine j_iload_n d_JL_indexOf_32 0 rfl ?_
  refine j_callS m_JL_indexOfChar [.ref (1000100 + i), .int x, .int (nI 0), .int (nI lst.length)] [] 0 0 0 cS_JL_95 d_JL_indexOf_33 rfl rfl (Nat.le_of_ble_eq_true rfl) (Nat.le_of_ble_eq_true rfl) (Nat.le_of_ble_eq_true rfl) (Nat.le_of_ble_eq_true rfl) (Nat.le_of_ble_eq_true rfl) (c_JL_indexOfChar hm hlen) (fun v τ h => ?_) (fun x τ h => absurd h.1 (by simp))
  obtain ⟨h1, rfl⟩ := h
  cases h1
  exact j_iret d_JL_indexOf_36 rfl (by decide) (by decide) ⟨rfl, rfl⟩
set_option maxHeartbeats 1000000 in
theorem c_JS_indexOf_2 {ω : q_W} {σ : q_H} {i : Nat} {tx : String × Nat × String} (hi : q_strs[i]? = some tx) {lst : List Int32} (hm : (1000100 + i, FieldType.byte, lst) ∈ q_olds) (hlen : lst.length < 65536) {x : Int32} (hpos : 0 < lst.length) (h0 : ¬ x < 0) (h1 : ¬ 255 < x) : J ω m_JS_indexOf_2 2 0 0 0 0 0 [(0, .ref (1000010 + i)), (1, .int x), (2, .int (nI 0))] [] σ (fun r τ => r = .inl (some (.int (ixF lst x.toInt8.toInt32 lst.length 0))) ∧ τ = σ) := by
  refine j_aload_n d_JS_indexOf_2_0 0 rfl ?_
  refine j_callVS m_JS_isLatin1 [] [] 0 0 0 cvs_JS_492 d_JS_indexOf_2_1 rfl rfl hi (Nat.le_of_ble_eq_true rfl) (Nat.le_of_ble_eq_true rfl) (Nat.le_of_ble_eq_true rfl) (Nat.le_of_ble_eq_true rfl) (Nat.le_of_ble_eq_true rfl) (c_JS_isLatin1 hi) (fun v τ h => ?_) (fun x τ h => absurd h.1 (by simp))
  obtain ⟨h1, rfl⟩ := h
  cases h1
  refine j_if_eq 23 d_JS_indexOf_2_4 (by decide) (fun h => absurd h (by decide)) (fun _ => ?_)
  refine j_aload_n d_JS_indexOf_2_7 0 rfl ?_
  refine j_getSv hi (List.mem_of_getElem? (i := 2055) (by decide +kernel)) d_JS_indexOf_2_8 ?_
  refine j_iload_n d_JS_indexOf_2_11 1 rfl ?_
  refine j_iload_n d_JS_indexOf_2_12 2 rfl ?_
  refine j_aload_n d_JS_indexOf_2_13 0 rfl ?_
  refine j_callVS m_JS_length [] [.int (nI 0), .int x, .ref (1000100 + i)] 1 0 0 cvs_JS_505 d_JS_indexOf_2_14 rfl rfl hi (Nat.le_of_ble_eq_true rfl) (Nat.le_of_ble_eq_true rfl) (Nat.le_of_ble_eq_true rfl) (Nat.le_of_ble_eq_true rfl) (Nat.le_of_ble_eq_true rfl) (c_JS_length hi hm hlen) (fun v τ h => ?_) (fun x τ h => absurd h.1 (by simp))
  obtain ⟨h1, rfl⟩ := h
  cases h1
  refine j_callS m_JL_indexOf [.ref (1000100 + i), .int x, .int (nI 0), .int (nI lst.length)] [] 1 0 0 cS_JS_637 d_JS_indexOf_2_17 rfl rfl (Nat.le_of_ble_eq_true rfl) (Nat.le_of_ble_eq_true rfl) (Nat.le_of_ble_eq_true rfl) (Nat.le_of_ble_eq_true rfl) (Nat.le_of_ble_eq_true rfl) (c_JL_indexOf hm hlen hpos h0 h1) (fun v τ h => ?_) (fun x τ h => absurd h.1 (by simp))
  obtain ⟨h1, rfl⟩ := h
  cases h1
  refine j_goto 36 d_JS_indexOf_2_20 (by decide) ?_
  exact j_iret d_JS_indexOf_2_36 rfl (by decide) (by decide) ⟨rfl, rfl⟩
set_option maxHeartbeats 1000000 in
theorem c_JS_indexOf {ω : q_W} {σ : q_H} {i : Nat} {tx : String × Nat × String} (hi : q_strs[i]? = some tx) {lst : List Int32} (hm : (1000100 + i, FieldType.byte, lst) ∈ q_olds) (hlen : lst.length < 65536) {x : Int32} (hpos : 0 < lst.length) (h0 : ¬ x < 0) (h1 : ¬ 255 < x) : J ω m_JS_indexOf 3 0 0 0 0 0 [(0, .ref (1000010 + i)), (1, .int x)] [] σ (fun r τ => r = .inl (some (.int (ixF lst x.toInt8.toInt32 lst.length 0))) ∧ τ = σ) := by
  refine j_aload_n d_JS_indexOf_0 0 rfl ?_
  refine j_iload_n d_JS_indexOf_1 1 rfl ?_
  refine j_iconst (v := nI 0) d_JS_indexOf_2 (by decide) ?_
  refine j_callVS m_JS_indexOf_2 [.int x, .int (nI 0)] [] 2 0 0 cvs_JS_633 d_JS_indexOf_3 rfl rfl hi (Nat.le_of_ble_eq_true rfl) (Nat.le_of_ble_eq_true rfl) (Nat.le_of_ble_eq_true rfl) (Nat.le_of_ble_eq_true rfl) (Nat.le_of_ble_eq_true rfl) (c_JS_indexOf_2 hi hm hlen hpos h0 h1) (fun v τ h => ?_) (fun x τ h => absurd h.1 (by simp))
  obtain ⟨h1, rfl⟩ := h
  cases h1
  exact j_iret d_JS_indexOf_6 rfl (by decide) (by decide) ⟨rfl, rfl⟩
def sgL14 : List Int32 := [59, 58, 40, 41, 123, 125, 61, 63, 33, 126, 43, 45, 42, 47, 37, 38, 124, 94, 60, 62]
def ixZ (x : Int) : Int := (ixF sgL14 (zI x).toInt8.toInt32 20 0).toInt
theorem c_ix {ω : q_W} {σ : q_H} {x : Int} (hx : 0 ≤ x ∧ x < 256) : J ω m_JS_indexOf 3 0 0 0 0 0 [(0, .ref (1000010 + 14)), (1, .int (zI x))] [] σ (fun r τ => r = .inl (some (.int (zI (ixZ x)))) ∧ τ = σ) := by
  have h0 : ¬ zI x < 0 := fun h => by
    rw [zI_0, zI_lt ⟨by omega, by omega⟩ ⟨by decide, by decide⟩] at h
    omega
  have h1 : ¬ 255 < zI x := fun h => by
    rw [show (255 : Int32) = zI 255 by decide, zI_lt ⟨by decide, by decide⟩ ⟨by omega, by omega⟩] at h
    omega
  refine j_mono (fun r τ h => ?_) (c_JS_indexOf (i := 14) (lst := sgL14) rfl (by decide +kernel) (by decide) (by decide) h0 h1)
  refine ⟨h.1.trans ?_, h.2⟩
  unfold ixZ
  rw [← zI_of]
  rfl
set_option maxHeartbeats 1000000 in
theorem l_M_spelled {ω : q_W} {d : Nat} {σ : q_H} {i : Nat} {tx : String × Nat × String} (hi : q_strs[i]? = some tx) {lst : List Int32} (hm : (1000100 + i, FieldType.byte, lst) ∈ q_olds) (hlen : lst.length < 65536) : ∀ n k, k + n = lst.length → J ω m_M_spelled (d + 4) 0 0 0 0 4 [(3, .int (nI k)), (1, .long (spF lst k)), (0, .ref (1000010 + i))] [] σ (fun r τ => r = .inl (some (.long (spF lst lst.length))) ∧ τ = σ) := by
  intro n
  induction n with
  | zero =>
    intro k hk
    refine j_iload_n d_M_spelled_4 0 rfl ?_
    refine j_aload_n d_M_spelled_5 2 rfl ?_
    refine j_callVS m_JS_length [] [.int (nI k)] 1 0 0 cvs_M_158 d_M_spelled_6 rfl rfl hi (Nat.le_of_ble_eq_true rfl) (by omega) (Nat.le_of_ble_eq_true rfl) (Nat.le_of_ble_eq_true rfl) (Nat.le_of_ble_eq_true rfl) (c_JS_length hi hm hlen) (fun v τ h => ?_) (fun x τ h => absurd h.1 (by simp))
    obtain ⟨h1, rfl⟩ := h
    cases h1
    refine j_icmp_ge 30 d_M_spelled_9 (by decide) (fun _ => ?_) (fun h => absurd (nI_le (by omega) (by omega)) h)
    refine j_lload_n d_M_spelled_30 1 rfl ?_
    exact j_lret d_M_spelled_31 rfl (by decide) (by decide) ⟨by rw [show k = lst.length by omega], rfl⟩
  | succ n ih =>
    intro k hkn
    have hk : k < lst.length := by omega
    refine j_iload_n d_M_spelled_4 0 rfl ?_
    refine j_aload_n d_M_spelled_5 2 rfl ?_
    refine j_callVS m_JS_length [] [.int (nI k)] 1 0 0 cvs_M_158 d_M_spelled_6 rfl rfl hi (Nat.le_of_ble_eq_true rfl) (by omega) (Nat.le_of_ble_eq_true rfl) (Nat.le_of_ble_eq_true rfl) (Nat.le_of_ble_eq_true rfl) (c_JS_length hi hm hlen) (fun v τ h => ?_) (fun x τ h => absurd h.1 (by simp))
    obtain ⟨h1, rfl⟩ := h
    cases h1
    refine j_icmp_ge 30 d_M_spelled_9 (by decide) (fun h => absurd h (nI_ge hk (by omega))) (fun _ => ?_)
    refine j_lload_n d_M_spelled_12 1 rfl ?_
    refine j_bipush (v := 8) d_M_spelled_13 (by decide) ?_
    refine j_lshl d_M_spelled_15 ?_
    refine j_aload_n d_M_spelled_16 2 rfl ?_
    refine j_iload_n d_M_spelled_17 0 rfl ?_
    refine j_callVS m_JS_charAt [.int (nI k)] [.long (spF lst k <<< ((8 : Int32).toInt64 &&& 63))] 3 0 0 cvs_M_164 d_M_spelled_18 rfl rfl hi (Nat.le_of_ble_eq_true rfl) (by omega) (Nat.le_of_ble_eq_true rfl) (Nat.le_of_ble_eq_true rfl) (Nat.le_of_ble_eq_true rfl) (c_JS_charAt hi hm hlen hk) (fun v τ h => ?_) (fun x τ h => absurd h.1 (by simp))
    obtain ⟨h1, rfl⟩ := h
    cases h1
    refine j_i2l d_M_spelled_21 ?_
    refine j_lor d_M_spelled_22 ?_
    refine j_lstore_n (L' := [(1, .long (spF lst (k + 1))), (3, .int (nI k)), (0, .ref (1000010 + i))]) d_M_spelled_23 (by decide) rfl ?_
    refine j_iinc (v := nI (k + 1)) (L' := [(3, .int (nI (k + 1))), (1, .long (spF lst (k + 1))), (0, .ref (1000010 + i))]) d_M_spelled_24 1 rfl (nI_succ k).symm (by decide) rfl ?_
    refine j_goto 4 d_M_spelled_27 (by decide) ?_
    exact ih (k + 1) (by omega)
set_option maxHeartbeats 1000000 in
theorem c_M_spelled {ω : q_W} {d : Nat} {σ : q_H} {i : Nat} {tx : String × Nat × String} (hi : q_strs[i]? = some tx) {lst : List Int32} (hm : (1000100 + i, FieldType.byte, lst) ∈ q_olds) (hlen : lst.length < 65536) : J ω m_M_spelled (d + 4) 0 0 0 0 0 [(0, .ref (1000010 + i))] [] σ (fun r τ => r = .inl (some (.long (spF lst lst.length))) ∧ τ = σ) := by
  refine j_lconst (v := 0) d_M_spelled_0 (by decide) ?_
  refine j_lstore_n (L' := [(1, .long 0), (0, .ref (1000010 + i))]) d_M_spelled_1 (by decide) rfl ?_
  refine j_iconst (v := 0) d_M_spelled_2 (by decide) ?_
  refine j_istore_n (L' := [(3, .int 0), (1, .long 0), (0, .ref (1000010 + i))]) d_M_spelled_3 (by decide) rfl ?_
  exact l_M_spelled hi hm hlen lst.length 0 (by omega)
set_option maxHeartbeats 2000000 in
theorem b_M_cut_0 {ω : q_W} {σ : q_H} {Q : q_R → q_H → Prop} {d mc ms : Nat}  {s : Nat} (hs : s = 110 ∨ s = 116) (rs0 : q_r σ 94 32 = s) (rs1 : q_r σ 94 33 = (s + 1)) (rs2 : q_r σ 94 34 = (s + 2)) (rs3 : q_r σ 94 35 = (s + 3)) (rs4 : q_r σ 94 36 = (s + 4)) (rs5 : q_r σ 94 37 = (s + 5)) (hE : q_E σ) (h : (J ω m_M_cut (d + 1) mc ms 0 0 7 [(0, .ref 94), (1, .int (zI 0))] [] (zs σ 94 7 0) Q)) : J ω m_M_cut (d + 1) mc ms 0 0 0 [(0, .ref 94)] [] σ Q := by
  refine j_aload_n d_M_cut_0 0 rfl ?_
  refine j_iconst (v := zI 0) d_M_cut_1 (by decide) ?_
  refine zj_putI (g_M_155 _) d_M_cut_2 (tg_94 hE) (q_okE hE (by decide)) ?_
  refine j_iconst (v := zI 0) d_M_cut_5 (by decide) ?_
  refine j_istore_n (L' := [(1, .int (zI 0)), (0, .ref 94)]) d_M_cut_6 (by decide) rfl ?_
  exact j_sel [1, 0] rfl h
set_option maxHeartbeats 2000000 in
theorem b_M_cut_7 {ω : q_W} {σ : q_H} {Q : q_R → q_H → Prop} {d mc ms : Nat} {x1 : Int} {s : Nat} (hs : s = 110 ∨ s = 116) (rs0 : q_r σ 94 32 = s) (rs1 : q_r σ 94 33 = (s + 1)) (rs2 : q_r σ 94 34 = (s + 2)) (rs3 : q_r σ 94 35 = (s + 3)) (rs4 : q_r σ 94 36 = (s + 4)) (rs5 : q_r σ 94 37 = (s + 5)) (hE : q_E σ) (h : inR x1 ∧ q_imp (x1 ≥ (z σ 94 2)) ((J ω m_M_token d 0 0 0 0 0 [(0, .ref 94), (1, .int (zI 273)), (2, .int (zI (z σ 94 2)))] [] σ (q_kv (fun τ => J ω m_M_cut (d + 1) mc ms 0 0 320 [] [] τ Q)))) ∧ q_imp (x1 < (z σ 94 2)) ((J ω m_M_look d 0 0 0 0 0 [(0, .ref 94), (1, .int (zI x1))] [] σ (q_ki (fun v τ => J ω m_M_cut (d + 1) mc ms 0 0 20 [(0, .ref 94), (1, .int (zI x1))] [.int (zI v)] τ Q))))) : J ω m_M_cut (d + 1) mc ms 0 0 7 [(0, .ref 94), (1, .int (zI x1))] [] σ Q := by
  refine j_iload_n d_M_cut_7 1 rfl ?_
  refine j_aload_n d_M_cut_8 0 rfl ?_
  refine zj_getI (z σ 94 2) f_M_144 d_M_cut_9 (tg_94 hE) (q_okE hE (by decide)) (q_z _ _ _) ?_
  obtain ⟨r1, h⟩ := h
  obtain ⟨h1, h2⟩ := h
  refine zj_icmp_ge 309 d_M_cut_12 (by decide) r1 (z_R _ _ _) (fun k2 => ?_) (fun k2 => ?_)
  · have h := h1 k2
    refine j_aload_n d_M_cut_309 0 rfl ?_
    refine j_sipush (v := zI 273) d_M_cut_310 (by decide) ?_
    refine j_aload_n d_M_cut_313 0 rfl ?_
    refine zj_getI (z σ 94 2) f_M_144 d_M_cut_314 (tg_94 hE) (q_okE hE (by decide)) (q_z _ _ _) ?_
    refine j_callV m_M_token [.int (zI 273), .int (zI (z σ 94 2))] [] d 0 0 cV_M_193 d_M_cut_317 rfl rfl (tg_94 hE) (q_okE hE (by decide)) (Nat.le_of_ble_eq_true rfl) (Nat.le_refl _) (Nat.le_of_ble_eq_true rfl) (Nat.zero_le _) (Nat.zero_le _) h (fun v τ h => ?_) (fun x τ h => ?_)
    · obtain ⟨e1, h⟩ := h; cases e1; exact j_sel [] rfl h
    · obtain ⟨e1, h⟩ := h; cases e1
  · have h := h2 k2
    refine j_aload_n d_M_cut_15 0 rfl ?_
    refine j_iload_n d_M_cut_16 1 rfl ?_
    refine j_callV m_M_look [.int (zI x1)] [] d 0 0 cV_M_186 d_M_cut_17 rfl rfl (tg_94 hE) (q_okE hE (by decide)) (Nat.le_of_ble_eq_true rfl) (Nat.le_refl _) (Nat.le_of_ble_eq_true rfl) (Nat.zero_le _) (Nat.zero_le _) h (fun v τ h => ?_) (fun x τ h => ?_)
    · obtain ⟨v, hv, e1, h⟩ := h; cases e1; exact j_sel [0, 1] rfl h
    · obtain ⟨v, hv, e1, h⟩ := h; cases e1
set_option maxHeartbeats 2000000 in
theorem b_M_cut_320 {ω : q_W} {σ : q_H} {Q : q_R → q_H → Prop} {d mc ms : Nat}  {s : Nat} (hs : s = 110 ∨ s = 116) (rs0 : q_r σ 94 32 = s) (rs1 : q_r σ 94 33 = (s + 1)) (rs2 : q_r σ 94 34 = (s + 2)) (rs3 : q_r σ 94 35 = (s + 3)) (rs4 : q_r σ 94 36 = (s + 4)) (rs5 : q_r σ 94 37 = (s + 5)) (hE : q_E σ) (h : (Q (.inl none) σ)) : J ω m_M_cut (d + 1) mc ms 0 0 320 [] [] σ Q := by
  exact j_vret d_M_cut_320 rfl (Nat.zero_le _) (Nat.zero_le _) h
set_option maxHeartbeats 2000000 in
theorem b_M_cut_20 {ω : q_W} {σ : q_H} {Q : q_R → q_H → Prop} {d mc ms : Nat} {x1 : Int} {y0 : Int} {s : Nat} (hs : s = 110 ∨ s = 116) (rs0 : q_r σ 94 32 = s) (rs1 : q_r σ 94 33 = (s + 1)) (rs2 : q_r σ 94 34 = (s + 2)) (rs3 : q_r σ 94 35 = (s + 3)) (rs4 : q_r σ 94 36 = (s + 4)) (rs5 : q_r σ 94 37 = (s + 5)) (hE : q_E σ) (h : inR y0 ∧ q_imp (y0 = 32) ((J ω m_M_cut (d + 1) mc ms 0 0 7 [(0, .ref 94), (1, .int (zI (x1 + 1)))] [] σ Q)) ∧ q_imp (y0 ≠ 32) (q_imp (y0 ≠ 10) (q_imp ((zIf (97 ≤ y0 ∧ y0 ≤ 122)) = 0) (q_imp ((zIf (48 ≤ y0 ∧ y0 ≤ 57)) = 0) ((J ω m_M_look d 0 0 0 0 0 [(0, .ref 94), (1, .int (zI (x1 + 1)))] [] σ (q_ki (fun v τ => J ω m_M_cut (d + 1) mc ms 0 0 234 [(0, .ref 94), (1, .int (zI x1)), (2, .int (zI y0)), (3, .int (zI x1))] [.int (zI v), .int (zI y0)] τ Q)))) ∧ q_imp ((zIf (48 ≤ y0 ∧ y0 ≤ 57)) ≠ 0) ((J ω m_M_cut (d + 1) mc ms 0 0 142 [(0, .ref 94), (1, .int (zI x1)), (3, .int (zI x1)), (4, .int (zI 0))] [] σ Q))) ∧ q_imp ((zIf (97 ≤ y0 ∧ y0 ≤ 122)) ≠ 0) ((J ω m_M_cut (d + 1) mc ms 0 0 51 [(0, .ref 94), (1, .int (zI x1)), (3, .int (zI x1)), (4, .long 0)] [] σ Q))) ∧ q_imp (y0 = 10) ((J ω m_M_cut (d + 1) mc ms 0 0 7 [(0, .ref 94), (1, .int (zI (x1 + 1)))] [] σ Q)))) : J ω m_M_cut (d + 1) mc ms 0 0 20 [(0, .ref 94), (1, .int (zI x1))] [.int (zI y0)] σ Q := by
  refine j_istore_n (L' := [(2, .int (zI y0)), (0, .ref 94), (1, .int (zI x1))]) d_M_cut_20 (by decide) rfl ?_
  refine j_iload_n d_M_cut_21 0 rfl ?_
  refine j_bipush (v := zI 32) d_M_cut_22 (by decide) ?_
  obtain ⟨r3, h⟩ := h
  obtain ⟨h1, h2⟩ := h
  refine zj_icmp_eq 33 d_M_cut_24 (by decide) r3 ⟨by decide, by decide⟩ (fun k4 => ?_) (fun k4 => ?_)
  · have h := h1 k4
    refine zj_iinc (L' := [(1, .int (zI (x1 + 1))), (2, .int (zI y0)), (0, .ref 94)]) (x1 + 1) d_M_cut_33 2 rfl (by omega) (by decide) rfl ?_
    refine j_goto 7 d_M_cut_36 (by decide) ?_
    exact j_sel [2, 0] rfl h
  · have h := h2 k4
    refine j_iload_n d_M_cut_27 0 rfl ?_
    refine j_bipush (v := zI 10) d_M_cut_28 (by decide) ?_
    obtain ⟨h1, h2⟩ := h
    refine zj_icmp_ne 39 d_M_cut_30 (by decide) r3 ⟨by decide, by decide⟩ (fun k5 => ?_) (fun k5 => ?_)
    · have h := h1 k5
      refine j_iload_n d_M_cut_39 2 rfl ?_
      refine j_istore_n (L' := [(3, .int (zI x1)), (2, .int (zI y0)), (0, .ref 94), (1, .int (zI x1))]) d_M_cut_40 (by decide) rfl ?_
      refine j_iload_n d_M_cut_41 1 rfl ?_
      refine j_callS m_M_letter [.int (zI y0)] [] 0 0 0 cS_M_189 d_M_cut_42 rfl rfl (Nat.le_of_ble_eq_true rfl) (Nat.succ_le_succ (Nat.zero_le _)) (Nat.le_of_ble_eq_true rfl) (Nat.zero_le _) (Nat.zero_le _) (c_M_letter hE r3) (fun v τ h => ?_) (fun x τ h => absurd h.1 (by simp))
      obtain ⟨e1, e2⟩ := h; cases e1; rw [e2]
      obtain ⟨h1, h2⟩ := h
      refine zj_if_eq 132 d_M_cut_45 (by decide) (zIf_R _) (fun k6 => ?_) (fun k6 => ?_)
      · have h := h1 k6
        refine j_iload_n d_M_cut_132 1 rfl ?_
        refine j_callS m_M_digit [.int (zI y0)] [] 0 0 0 cS_M_201 d_M_cut_133 rfl rfl (Nat.le_of_ble_eq_true rfl) (Nat.succ_le_succ (Nat.zero_le _)) (Nat.le_of_ble_eq_true rfl) (Nat.zero_le _) (Nat.zero_le _) (c_M_digit hE r3) (fun v τ h => ?_) (fun x τ h => absurd h.1 (by simp))
        obtain ⟨e1, e2⟩ := h; cases e1; rw [e2]
        obtain ⟨h1, h2⟩ := h
        refine zj_if_eq 226 d_M_cut_136 (by decide) (zIf_R _) (fun k7 => ?_) (fun k7 => ?_)
        · have h := h1 k7
          refine j_iload_n d_M_cut_226 1 rfl ?_
          refine j_aload_n d_M_cut_227 2 rfl ?_
          refine j_iload_n d_M_cut_228 3 rfl ?_
          refine j_iconst (v := zI 1) d_M_cut_229 (by decide) ?_
          refine zj_iadd (x1 + 1) (by omega) d_M_cut_230 ?_
          refine j_callV m_M_look [.int (zI (x1 + 1))] [.int (zI y0)] d 0 0 cV_M_186 d_M_cut_231 rfl rfl (tg_94 hE) (q_okE hE (by decide)) (Nat.le_of_ble_eq_true rfl) (Nat.le_refl _) (Nat.le_of_ble_eq_true rfl) (Nat.zero_le _) (Nat.zero_le _) h (fun v τ h => ?_) (fun x τ h => ?_)
          · obtain ⟨v, hv, e1, h⟩ := h; cases e1; exact j_sel [2, 3, 1, 0] rfl h
          · obtain ⟨v, hv, e1, h⟩ := h; cases e1
        · have h := h2 k7
          refine j_iconst (v := zI 0) d_M_cut_139 (by decide) ?_
          refine j_istore (L' := [(4, .int (zI 0)), (3, .int (zI x1)), (2, .int (zI y0)), (0, .ref 94), (1, .int (zI x1))]) d_M_cut_140 (by decide) rfl ?_
          exact j_sel [3, 4, 1, 0] rfl h
      · have h := h2 k6
        refine j_lconst (v := 0) d_M_cut_48 (by decide) ?_
        refine j_lstore (L' := [(4, .long 0), (3, .int (zI x1)), (2, .int (zI y0)), (0, .ref 94), (1, .int (zI x1))]) d_M_cut_49 (by decide) rfl ?_
        exact j_sel [3, 4, 1, 0] rfl h
    · have h := h2 k5
      refine zj_iinc (L' := [(1, .int (zI (x1 + 1))), (2, .int (zI y0)), (0, .ref 94)]) (x1 + 1) d_M_cut_33 2 rfl (by omega) (by decide) rfl ?_
      refine j_goto 7 d_M_cut_36 (by decide) ?_
      exact j_sel [2, 0] rfl h
set_option maxHeartbeats 2000000 in
theorem b_M_cut_234 {ω : q_W} {σ : q_H} {Q : q_R → q_H → Prop} {d mc ms : Nat} {x1 : Int} {x2 : Int} {x3 : Int} {y0 : Int} {y1 : Int} {s : Nat} (hs : s = 110 ∨ s = 116) (rs0 : q_r σ 94 32 = s) (rs1 : q_r σ 94 33 = (s + 1)) (rs2 : q_r σ 94 34 = (s + 2)) (rs3 : q_r σ 94 35 = (s + 3)) (rs4 : q_r σ 94 36 = (s + 4)) (rs5 : q_r σ 94 37 = (s + 5)) (hE : q_E σ) (h : (J ω m_M_pair d 0 0 0 0 0 [(0, .int (zI y1)), (1, .int (zI y0))] [] σ (q_ki (fun v τ => J ω m_M_cut (d + 1) mc ms 0 0 237 [(0, .ref 94), (1, .int (zI x1)), (2, .int (zI x2)), (3, .int (zI x3))] [.int (zI v)] τ Q)))) : J ω m_M_cut (d + 1) mc ms 0 0 234 [(0, .ref 94), (1, .int (zI x1)), (2, .int (zI x2)), (3, .int (zI x3))] [.int (zI y0), .int (zI y1)] σ Q := by
  refine j_callS m_M_pair [.int (zI y1), .int (zI y0)] [] d 0 0 cS_M_210 d_M_cut_234 rfl rfl (Nat.le_of_ble_eq_true rfl) (Nat.le_refl _) (Nat.le_of_ble_eq_true rfl) (Nat.zero_le _) (Nat.zero_le _) h (fun v τ h => ?_) (fun x τ h => ?_)
  · obtain ⟨v, hv, e1, h⟩ := h; cases e1; exact j_sel [0, 1, 2, 3] rfl h
  · obtain ⟨v, hv, e1, h⟩ := h; cases e1
set_option maxHeartbeats 2000000 in
theorem b_M_cut_142 {ω : q_W} {σ : q_H} {Q : q_R → q_H → Prop} {d mc ms : Nat} {x1 : Int} {x3 : Int} {x4 : Int} {s : Nat} (hs : s = 110 ∨ s = 116) (rs0 : q_r σ 94 32 = s) (rs1 : q_r σ 94 33 = (s + 1)) (rs2 : q_r σ 94 34 = (s + 2)) (rs3 : q_r σ 94 35 = (s + 3)) (rs4 : q_r σ 94 36 = (s + 4)) (rs5 : q_r σ 94 37 = (s + 5)) (hE : q_E σ) (h : (J ω m_M_look d 0 0 0 0 0 [(0, .ref 94), (1, .int (zI x1))] [] σ (q_ki (fun v τ => J ω m_M_cut (d + 1) mc ms 0 0 147 [(0, .ref 94), (1, .int (zI x1)), (3, .int (zI x3)), (4, .int (zI x4))] [.int (zI v)] τ Q)))) : J ω m_M_cut (d + 1) mc ms 0 0 142 [(0, .ref 94), (1, .int (zI x1)), (3, .int (zI x3)), (4, .int (zI x4))] [] σ Q := by
  refine j_aload_n d_M_cut_142 0 rfl ?_
  refine j_iload_n d_M_cut_143 1 rfl ?_
  refine j_callV m_M_look [.int (zI x1)] [] d 0 0 cV_M_186 d_M_cut_144 rfl rfl (tg_94 hE) (q_okE hE (by decide)) (Nat.le_of_ble_eq_true rfl) (Nat.le_refl _) (Nat.le_of_ble_eq_true rfl) (Nat.zero_le _) (Nat.zero_le _) h (fun v τ h => ?_) (fun x τ h => ?_)
  · obtain ⟨v, hv, e1, h⟩ := h; cases e1; exact j_sel [0, 1, 2, 3] rfl h
  · obtain ⟨v, hv, e1, h⟩ := h; cases e1
set_option maxHeartbeats 2000000 in
theorem b_M_cut_51 {ω : q_W} {σ : q_H} {Q : q_R → q_H → Prop} {d mc ms : Nat} {x1 : Int} {x3 : Int} {x4 : Int64} {s : Nat} (hs : s = 110 ∨ s = 116) (rs0 : q_r σ 94 32 = s) (rs1 : q_r σ 94 33 = (s + 1)) (rs2 : q_r σ 94 34 = (s + 2)) (rs3 : q_r σ 94 35 = (s + 3)) (rs4 : q_r σ 94 36 = (s + 4)) (rs5 : q_r σ 94 37 = (s + 5)) (hE : q_E σ) (h : (J ω m_M_look d 0 0 0 0 0 [(0, .ref 94), (1, .int (zI x1))] [] σ (q_ki (fun v τ => J ω m_M_cut (d + 1) mc ms 0 0 56 [(0, .ref 94), (1, .int (zI x1)), (3, .int (zI x3)), (4, .long x4)] [.int (zI v)] τ Q)))) : J ω m_M_cut (d + 1) mc ms 0 0 51 [(0, .ref 94), (1, .int (zI x1)), (3, .int (zI x3)), (4, .long x4)] [] σ Q := by
  refine j_aload_n d_M_cut_51 0 rfl ?_
  refine j_iload_n d_M_cut_52 1 rfl ?_
  refine j_callV m_M_look [.int (zI x1)] [] d 0 0 cV_M_186 d_M_cut_53 rfl rfl (tg_94 hE) (q_okE hE (by decide)) (Nat.le_of_ble_eq_true rfl) (Nat.le_refl _) (Nat.le_of_ble_eq_true rfl) (Nat.zero_le _) (Nat.zero_le _) h (fun v τ h => ?_) (fun x τ h => ?_)
  · obtain ⟨v, hv, e1, h⟩ := h; cases e1; exact j_sel [0, 1, 2, 3] rfl h
  · obtain ⟨v, hv, e1, h⟩ := h; cases e1
set_option maxHeartbeats 2000000 in
theorem b_M_cut_237 {ω : q_W} {σ : q_H} {Q : q_R → q_H → Prop} {d mc ms : Nat} {x1 : Int} {x2 : Int} {x3 : Int} {y0 : Int} {s : Nat} (hs : s = 110 ∨ s = 116) (rs0 : q_r σ 94 32 = s) (rs1 : q_r σ 94 33 = (s + 1)) (rs2 : q_r σ 94 34 = (s + 2)) (rs3 : q_r σ 94 35 = (s + 3)) (rs4 : q_r σ 94 36 = (s + 4)) (rs5 : q_r σ 94 37 = (s + 5)) (hE : q_E σ) (h : (0 ≤ x2 ∧ x2 < 256) ∧ 4 ≤ d + 1 ∧ q_imp ((ixZ x2) < 0) ((J ω m_M_cut (d + 1) mc ms 0 0 253 [(0, .ref 94), (1, .int (zI x1)), (2, .int (zI x2)), (3, .int (zI x3)), (4, .int (zI y0))] [.int (zI 0)] σ Q)) ∧ q_imp (0 ≤ (ixZ x2)) ((J ω m_M_cut (d + 1) mc ms 0 0 253 [(0, .ref 94), (1, .int (zI x1)), (2, .int (zI x2)), (3, .int (zI x3)), (4, .int (zI y0))] [.int (zI 1)] σ Q))) : J ω m_M_cut (d + 1) mc ms 0 0 237 [(0, .ref 94), (1, .int (zI x1)), (2, .int (zI x2)), (3, .int (zI x3))] [.int (zI y0)] σ Q := by
  refine j_istore (L' := [(4, .int (zI y0)), (0, .ref 94), (1, .int (zI x1)), (2, .int (zI x2)), (3, .int (zI x3))]) d_M_cut_237 (by decide) rfl ?_
  refine j_ldcS 14 rfl d_M_cut_239 ?_
  refine j_iload_n d_M_cut_241 3 rfl ?_
  obtain ⟨c8, h⟩ := h
  obtain ⟨c9, h⟩ := h
  refine j_callVS (i := 14) m_JS_indexOf [.int (zI x2)] [] 3 0 0 cvs_M_215 d_M_cut_242 rfl rfl rfl (Nat.le_of_ble_eq_true rfl) c9 (Nat.le_of_ble_eq_true rfl) (Nat.zero_le _) (Nat.zero_le _) (c_ix c8) (fun v τ h => ?_) (fun x τ h => absurd h.1 (by simp))
  obtain ⟨e1, e2⟩ := h; cases e1; rw [e2]
  obtain ⟨h1, h2⟩ := h
  refine zj_if_lt 252 d_M_cut_245 (by decide) (inR_of _) (fun k10 => ?_) (fun k10 => ?_)
  · have h := h1 k10
    refine j_iconst (v := zI 0) d_M_cut_252 (by decide) ?_
    exact j_sel [1, 2, 3, 4, 0] rfl h
  · have h := h2 k10
    refine j_iconst (v := zI 1) d_M_cut_248 (by decide) ?_
    refine j_goto 253 d_M_cut_249 (by decide) ?_
    exact j_sel [1, 2, 3, 4, 0] rfl h
set_option maxHeartbeats 2000000 in
theorem b_M_cut_147 {ω : q_W} {σ : q_H} {Q : q_R → q_H → Prop} {d mc ms : Nat} {x1 : Int} {x3 : Int} {x4 : Int} {y0 : Int} {s : Nat} (hs : s = 110 ∨ s = 116) (rs0 : q_r σ 94 32 = s) (rs1 : q_r σ 94 33 = (s + 1)) (rs2 : q_r σ 94 34 = (s + 2)) (rs3 : q_r σ 94 35 = (s + 3)) (rs4 : q_r σ 94 36 = (s + 4)) (rs5 : q_r σ 94 37 = (s + 5)) (hE : q_E σ) (h : inR y0 ∧ q_imp ((zIf (48 ≤ y0 ∧ y0 ≤ 57)) = 0) ((0 ≤ (z σ 94 7) ∧ (z σ 94 7) < 4098) ∧ inR x4 ∧ q_imp (x4 ≤ 255) ((J ω m_M_cut (d + 1) mc ms 0 0 210 [(0, .ref 94), (1, .int (zI x1)), (3, .int (zI x3)), (4, .int (zI x4))] [.int (zI 264), .ref 94] (zs σ 98 (z σ 94 7).toNat x4) Q)) ∧ q_imp (x4 > 255) ((J ω m_M_cut (d + 1) mc ms 0 0 210 [(0, .ref 94), (1, .int (zI x1)), (3, .int (zI x3)), (4, .int (zI x4))] [.int (zI 274), .ref 94] (zs σ 98 (z σ 94 7).toNat x4) Q))) ∧ q_imp ((zIf (48 ≤ y0 ∧ y0 ≤ 57)) ≠ 0) ((J ω m_M_look d 0 0 0 0 0 [(0, .ref 94), (1, .int (zI x1))] [] σ (q_ki (fun v τ => J ω m_M_cut (d + 1) mc ms 0 0 163 [(0, .ref 94), (1, .int (zI x1)), (3, .int (zI x3))] [.int (zI v), .int (zI (x4 * 10))] τ Q))))) : J ω m_M_cut (d + 1) mc ms 0 0 147 [(0, .ref 94), (1, .int (zI x1)), (3, .int (zI x3)), (4, .int (zI x4))] [.int (zI y0)] σ Q := by
  obtain ⟨r11, h⟩ := h
  refine j_callS m_M_digit [.int (zI y0)] [] 0 0 0 cS_M_201 d_M_cut_147 rfl rfl (Nat.le_of_ble_eq_true rfl) (Nat.succ_le_succ (Nat.zero_le _)) (Nat.le_of_ble_eq_true rfl) (Nat.zero_le _) (Nat.zero_le _) (c_M_digit hE r11) (fun v τ h => ?_) (fun x τ h => absurd h.1 (by simp))
  obtain ⟨e1, e2⟩ := h; cases e1; rw [e2]
  obtain ⟨h1, h2⟩ := h
  refine zj_if_eq 181 d_M_cut_150 (by decide) (zIf_R _) (fun k12 => ?_) (fun k12 => ?_)
  · have h := h1 k12
    refine j_aload_n d_M_cut_181 0 rfl ?_
    refine j_getR 98 f_M_20 d_M_cut_182 (tg_94 hE) (q_okE hE (by decide)) (rf_94_5 hE) (by decide) ?_
    refine j_aload_n d_M_cut_185 0 rfl ?_
    refine zj_getI (z σ 94 7) f_M_155 d_M_cut_186 (tg_94 hE) (q_okE hE (by decide)) (q_z _ _ _) ?_
    refine j_iload d_M_cut_189 3 rfl ?_
    obtain ⟨c13, h⟩ := h
    refine zj_iast d_M_cut_191 (tg_98 hE) (q_okE hE (by decide)) c13 (by decide) ?_
    refine j_aload_n d_M_cut_192 0 rfl ?_
    refine j_iload d_M_cut_193 3 rfl ?_
    refine j_sipush (v := zI 255) d_M_cut_195 (by decide) ?_
    obtain ⟨r14, h⟩ := h
    obtain ⟨h1, h2⟩ := h
    refine zj_icmp_le 207 d_M_cut_198 (by decide) r14 ⟨by decide, by decide⟩ (fun k15 => ?_) (fun k15 => ?_)
    · have h := h1 k15
      refine j_sipush (v := zI 264) d_M_cut_207 (by decide) ?_
      exact j_sel [0, 1, 2, 3] rfl h
    · have h := h2 k15
      refine j_sipush (v := zI 274) d_M_cut_201 (by decide) ?_
      refine j_goto 210 d_M_cut_204 (by decide) ?_
      exact j_sel [0, 1, 2, 3] rfl h
  · have h := h2 k12
    refine j_iload d_M_cut_153 3 rfl ?_
    refine j_bipush (v := zI 10) d_M_cut_155 (by decide) ?_
    refine zj_imul (x4 * 10) rfl d_M_cut_157 ?_
    refine j_aload_n d_M_cut_158 0 rfl ?_
    refine j_iload_n d_M_cut_159 1 rfl ?_
    refine j_callV m_M_look [.int (zI x1)] [.int (zI (x4 * 10))] d 0 0 cV_M_186 d_M_cut_160 rfl rfl (tg_94 hE) (q_okE hE (by decide)) (Nat.le_of_ble_eq_true rfl) (Nat.le_refl _) (Nat.le_of_ble_eq_true rfl) (Nat.zero_le _) (Nat.zero_le _) h (fun v τ h => ?_) (fun x τ h => ?_)
    · obtain ⟨v, hv, e1, h⟩ := h; cases e1; exact j_sel [0, 1, 2] rfl h
    · obtain ⟨v, hv, e1, h⟩ := h; cases e1
set_option maxHeartbeats 2000000 in
theorem b_M_cut_56 {ω : q_W} {σ : q_H} {Q : q_R → q_H → Prop} {d mc ms : Nat} {x1 : Int} {x3 : Int} {x4 : Int64} {y0 : Int} {s : Nat} (hs : s = 110 ∨ s = 116) (rs0 : q_r σ 94 32 = s) (rs1 : q_r σ 94 33 = (s + 1)) (rs2 : q_r σ 94 34 = (s + 2)) (rs3 : q_r σ 94 35 = (s + 3)) (rs4 : q_r σ 94 36 = (s + 4)) (rs5 : q_r σ 94 37 = (s + 5)) (hE : q_E σ) (h : inR y0 ∧ q_imp ((zIf (97 ≤ y0 ∧ y0 ≤ 122)) = 0) (inR (x1 - x3) ∧ q_imp ((x1 - x3) ≤ 8) ((0 ≤ (z σ 94 7) ∧ (z σ 94 7) < 4098) ∧ (J ω m_M_word d 0 0 0 0 0 [(0, .ref 94), (1, .long x4)] [] (zt σ 99 (z σ 94 7).toNat x4) (q_ki (fun v τ => J ω m_M_cut (d + 1) mc ms 0 0 125 [(0, .ref 94), (1, .int (zI x1)), (3, .int (zI x3))] [.int (zI v), .ref 94] τ Q)))) ∧ q_imp ((x1 - x3) > 8) ((J ω m_M_token d 0 0 0 0 0 [(0, .ref 94), (1, .int (zI 274)), (2, .int (zI x3))] [] σ (q_kv (fun τ => J ω m_M_cut (d + 1) mc ms 0 0 106 [] [] τ Q))))) ∧ q_imp ((zIf (97 ≤ y0 ∧ y0 ≤ 122)) ≠ 0) (inR (x1 - x3) ∧ q_imp ((x1 - x3) ≥ 8) ((J ω m_M_cut (d + 1) mc ms 0 0 51 [(0, .ref 94), (1, .int (zI (x1 + 1))), (3, .int (zI x3)), (4, .long x4)] [] σ Q)) ∧ q_imp ((x1 - x3) < 8) ((J ω m_M_look d 0 0 0 0 0 [(0, .ref 94), (1, .int (zI x1))] [] σ (q_ki (fun v τ => J ω m_M_cut (d + 1) mc ms 0 0 80 [(0, .ref 94), (1, .int (zI x1)), (3, .int (zI x3))] [.int (zI v), .long (x4 <<< ((zI 8).toInt64 &&& 63))] τ Q)))))) : J ω m_M_cut (d + 1) mc ms 0 0 56 [(0, .ref 94), (1, .int (zI x1)), (3, .int (zI x3)), (4, .long x4)] [.int (zI y0)] σ Q := by
  obtain ⟨r16, h⟩ := h
  refine j_callS m_M_letter [.int (zI y0)] [] 0 0 0 cS_M_189 d_M_cut_56 rfl rfl (Nat.le_of_ble_eq_true rfl) (Nat.succ_le_succ (Nat.zero_le _)) (Nat.le_of_ble_eq_true rfl) (Nat.zero_le _) (Nat.zero_le _) (c_M_letter hE r16) (fun v τ h => ?_) (fun x τ h => absurd h.1 (by simp))
  obtain ⟨e1, e2⟩ := h; cases e1; rw [e2]
  obtain ⟨h1, h2⟩ := h
  refine zj_if_eq 90 d_M_cut_59 (by decide) (zIf_R _) (fun k17 => ?_) (fun k17 => ?_)
  · have h := h1 k17
    refine j_iload_n d_M_cut_90 1 rfl ?_
    refine j_iload_n d_M_cut_91 2 rfl ?_
    refine zj_isub (x1 - x3) rfl d_M_cut_92 ?_
    refine j_bipush (v := zI 8) d_M_cut_93 (by decide) ?_
    obtain ⟨r18, h⟩ := h
    obtain ⟨h1, h2⟩ := h
    refine zj_icmp_le 107 d_M_cut_95 (by decide) r18 ⟨by decide, by decide⟩ (fun k19 => ?_) (fun k19 => ?_)
    · have h := h1 k19
      refine j_aload_n d_M_cut_107 0 rfl ?_
      refine j_getR 99 f_M_23 d_M_cut_108 (tg_94 hE) (q_okE hE (by decide)) (rf_94_6 hE) (by decide) ?_
      refine j_aload_n d_M_cut_111 0 rfl ?_
      refine zj_getI (z σ 94 7) f_M_155 d_M_cut_112 (tg_94 hE) (q_okE hE (by decide)) (q_z _ _ _) ?_
      refine j_lload d_M_cut_115 3 rfl ?_
      obtain ⟨c20, h⟩ := h
      refine zj_last d_M_cut_117 (tg_99 hE) (q_okE hE (by decide)) c20 (by decide) ?_
      refine j_aload_n d_M_cut_118 0 rfl ?_
      refine j_aload_n d_M_cut_119 0 rfl ?_
      refine j_lload d_M_cut_120 3 rfl ?_
      refine j_callV m_M_word [.long x4] [.ref 94] d 0 0 cV_M_197 d_M_cut_122 rfl rfl (tg_94 (zt_E hE)) (q_okE (zt_E hE) (by decide)) (Nat.le_of_ble_eq_true rfl) (Nat.le_refl _) (Nat.le_of_ble_eq_true rfl) (Nat.zero_le _) (Nat.zero_le _) h (fun v τ h => ?_) (fun x τ h => ?_)
      · obtain ⟨v, hv, e1, h⟩ := h; cases e1; exact j_sel [0, 1, 2] rfl h
      · obtain ⟨v, hv, e1, h⟩ := h; cases e1
    · have h := h2 k19
      refine j_aload_n d_M_cut_98 0 rfl ?_
      refine j_sipush (v := zI 274) d_M_cut_99 (by decide) ?_
      refine j_iload_n d_M_cut_102 2 rfl ?_
      refine j_callV m_M_token [.int (zI 274), .int (zI x3)] [] d 0 0 cV_M_193 d_M_cut_103 rfl rfl (tg_94 hE) (q_okE hE (by decide)) (Nat.le_of_ble_eq_true rfl) (Nat.le_refl _) (Nat.le_of_ble_eq_true rfl) (Nat.zero_le _) (Nat.zero_le _) h (fun v τ h => ?_) (fun x τ h => ?_)
      · obtain ⟨e1, h⟩ := h; cases e1; exact j_sel [] rfl h
      · obtain ⟨e1, h⟩ := h; cases e1
  · have h := h2 k17
    refine j_iload_n d_M_cut_62 1 rfl ?_
    refine j_iload_n d_M_cut_63 2 rfl ?_
    refine zj_isub (x1 - x3) rfl d_M_cut_64 ?_
    refine j_bipush (v := zI 8) d_M_cut_65 (by decide) ?_
    obtain ⟨r21, h⟩ := h
    obtain ⟨h1, h2⟩ := h
    refine zj_icmp_ge 84 d_M_cut_67 (by decide) r21 ⟨by decide, by decide⟩ (fun k22 => ?_) (fun k22 => ?_)
    · have h := h1 k22
      refine zj_iinc (L' := [(1, .int (zI (x1 + 1))), (0, .ref 94), (3, .int (zI x3)), (4, .long x4)]) (x1 + 1) d_M_cut_84 1 rfl (by omega) (by decide) rfl ?_
      refine j_goto 51 d_M_cut_87 (by decide) ?_
      exact j_sel [1, 0, 2, 3] rfl h
    · have h := h2 k22
      refine j_lload d_M_cut_70 3 rfl ?_
      refine j_bipush (v := zI 8) d_M_cut_72 (by decide) ?_
      refine j_lshl d_M_cut_74 ?_
      refine j_aload_n d_M_cut_75 0 rfl ?_
      refine j_iload_n d_M_cut_76 1 rfl ?_
      refine j_callV m_M_look [.int (zI x1)] [.long (x4 <<< ((zI 8).toInt64 &&& 63))] d 0 0 cV_M_186 d_M_cut_77 rfl rfl (tg_94 hE) (q_okE hE (by decide)) (Nat.le_of_ble_eq_true rfl) (Nat.le_refl _) (Nat.le_of_ble_eq_true rfl) (Nat.zero_le _) (Nat.zero_le _) h (fun v τ h => ?_) (fun x τ h => ?_)
      · obtain ⟨v, hv, e1, h⟩ := h; cases e1; exact j_sel [0, 1, 2] rfl h
      · obtain ⟨v, hv, e1, h⟩ := h; cases e1
set_option maxHeartbeats 2000000 in
theorem b_M_cut_253 {ω : q_W} {σ : q_H} {Q : q_R → q_H → Prop} {d mc ms : Nat} {x1 : Int} {x2 : Int} {x3 : Int} {x4 : Int} {y0 : Int} {s : Nat} (hs : s = 110 ∨ s = 116) (rs0 : q_r σ 94 32 = s) (rs1 : q_r σ 94 33 = (s + 1)) (rs2 : q_r σ 94 34 = (s + 2)) (rs3 : q_r σ 94 35 = (s + 3)) (rs4 : q_r σ 94 36 = (s + 4)) (rs5 : q_r σ 94 37 = (s + 5)) (hE : q_E σ) (h : inR x4 ∧ q_imp (x4 = 0) (inR y0 ∧ q_imp (y0 = 0) ((J ω m_M_token d 0 0 0 0 0 [(0, .ref 94), (1, .int (zI 274)), (2, .int (zI x3))] [] σ (q_kv (fun τ => J ω m_M_cut (d + 1) mc ms 0 0 282 [(0, .ref 94), (1, .int (zI x1)), (4, .int (zI x4)), (5, .int (zI y0))] [] τ Q)))) ∧ q_imp (y0 ≠ 0) ((J ω m_M_token d 0 0 0 0 0 [(0, .ref 94), (1, .int (zI x2)), (2, .int (zI x3))] [] σ (q_kv (fun τ => J ω m_M_cut (d + 1) mc ms 0 0 282 [(0, .ref 94), (1, .int (zI x1)), (4, .int (zI x4)), (5, .int (zI y0))] [] τ Q))))) ∧ q_imp (x4 ≠ 0) ((J ω m_M_token d 0 0 0 0 0 [(0, .ref 94), (1, .int (zI x4)), (2, .int (zI x3))] [] σ (q_kv (fun τ => J ω m_M_cut (d + 1) mc ms 0 0 282 [(0, .ref 94), (1, .int (zI x1)), (4, .int (zI x4)), (5, .int (zI y0))] [] τ Q))))) : J ω m_M_cut (d + 1) mc ms 0 0 253 [(0, .ref 94), (1, .int (zI x1)), (2, .int (zI x2)), (3, .int (zI x3)), (4, .int (zI x4))] [.int (zI y0)] σ Q := by
  refine j_istore (L' := [(5, .int (zI y0)), (0, .ref 94), (1, .int (zI x1)), (2, .int (zI x2)), (3, .int (zI x3)), (4, .int (zI x4))]) d_M_cut_253 (by decide) rfl ?_
  refine j_aload_n d_M_cut_255 1 rfl ?_
  refine j_iload d_M_cut_256 5 rfl ?_
  obtain ⟨r23, h⟩ := h
  obtain ⟨h1, h2⟩ := h
  refine zj_if_eq 266 d_M_cut_258 (by decide) r23 (fun k24 => ?_) (fun k24 => ?_)
  · have h := h1 k24
    refine j_iload d_M_cut_266 0 rfl ?_
    obtain ⟨r25, h⟩ := h
    obtain ⟨h1, h2⟩ := h
    refine zj_if_eq 275 d_M_cut_268 (by decide) r25 (fun k26 => ?_) (fun k26 => ?_)
    · have h := h1 k26
      refine j_sipush (v := zI 274) d_M_cut_275 (by decide) ?_
      refine j_iload_n d_M_cut_278 4 rfl ?_
      refine j_callV m_M_token [.int (zI 274), .int (zI x3)] [] d 0 0 cV_M_193 d_M_cut_279 rfl rfl (tg_94 hE) (q_okE hE (by decide)) (Nat.le_of_ble_eq_true rfl) (Nat.le_refl _) (Nat.le_of_ble_eq_true rfl) (Nat.zero_le _) (Nat.zero_le _) h (fun v τ h => ?_) (fun x τ h => ?_)
      · obtain ⟨e1, h⟩ := h; cases e1; exact j_sel [1, 2, 5, 0] rfl h
      · obtain ⟨e1, h⟩ := h; cases e1
    · have h := h2 k26
      refine j_iload_n d_M_cut_271 3 rfl ?_
      refine j_goto 278 d_M_cut_272 (by decide) ?_
      refine j_iload_n d_M_cut_278 4 rfl ?_
      refine j_callV m_M_token [.int (zI x2), .int (zI x3)] [] d 0 0 cV_M_193 d_M_cut_279 rfl rfl (tg_94 hE) (q_okE hE (by decide)) (Nat.le_of_ble_eq_true rfl) (Nat.le_refl _) (Nat.le_of_ble_eq_true rfl) (Nat.zero_le _) (Nat.zero_le _) h (fun v τ h => ?_) (fun x τ h => ?_)
      · obtain ⟨e1, h⟩ := h; cases e1; exact j_sel [1, 2, 5, 0] rfl h
      · obtain ⟨e1, h⟩ := h; cases e1
  · have h := h2 k24
    refine j_iload d_M_cut_261 5 rfl ?_
    refine j_goto 278 d_M_cut_263 (by decide) ?_
    refine j_iload_n d_M_cut_278 4 rfl ?_
    refine j_callV m_M_token [.int (zI x4), .int (zI x3)] [] d 0 0 cV_M_193 d_M_cut_279 rfl rfl (tg_94 hE) (q_okE hE (by decide)) (Nat.le_of_ble_eq_true rfl) (Nat.le_refl _) (Nat.le_of_ble_eq_true rfl) (Nat.zero_le _) (Nat.zero_le _) h (fun v τ h => ?_) (fun x τ h => ?_)
    · obtain ⟨e1, h⟩ := h; cases e1; exact j_sel [1, 2, 5, 0] rfl h
    · obtain ⟨e1, h⟩ := h; cases e1
set_option maxHeartbeats 2000000 in
theorem b_M_cut_210 {ω : q_W} {σ : q_H} {Q : q_R → q_H → Prop} {d mc ms : Nat} {x1 : Int} {x3 : Int} {x4 : Int} {y0 : Int} {s : Nat} (hs : s = 110 ∨ s = 116) (rs0 : q_r σ 94 32 = s) (rs1 : q_r σ 94 33 = (s + 1)) (rs2 : q_r σ 94 34 = (s + 2)) (rs3 : q_r σ 94 35 = (s + 3)) (rs4 : q_r σ 94 36 = (s + 4)) (rs5 : q_r σ 94 37 = (s + 5)) (hE : q_E σ) (h : (J ω m_M_token d 0 0 0 0 0 [(0, .ref 94), (1, .int (zI y0)), (2, .int (zI x3))] [] σ (q_kv (fun τ => J ω m_M_cut (d + 1) mc ms 0 0 214 [(0, .ref 94), (1, .int (zI x1)), (4, .int (zI x4))] [] τ Q)))) : J ω m_M_cut (d + 1) mc ms 0 0 210 [(0, .ref 94), (1, .int (zI x1)), (3, .int (zI x3)), (4, .int (zI x4))] [.int (zI y0), .ref 94] σ Q := by
  refine j_iload_n d_M_cut_210 2 rfl ?_
  refine j_callV m_M_token [.int (zI y0), .int (zI x3)] [] d 0 0 cV_M_193 d_M_cut_211 rfl rfl (tg_94 hE) (q_okE hE (by decide)) (Nat.le_of_ble_eq_true rfl) (Nat.le_refl _) (Nat.le_of_ble_eq_true rfl) (Nat.zero_le _) (Nat.zero_le _) h (fun v τ h => ?_) (fun x τ h => ?_)
  · obtain ⟨e1, h⟩ := h; cases e1; exact j_sel [0, 1, 3] rfl h
  · obtain ⟨e1, h⟩ := h; cases e1
set_option maxHeartbeats 2000000 in
theorem b_M_cut_163 {ω : q_W} {σ : q_H} {Q : q_R → q_H → Prop} {d mc ms : Nat} {x1 : Int} {x3 : Int} {y0 : Int} {y1 : Int} {s : Nat} (hs : s = 110 ∨ s = 116) (rs0 : q_r σ 94 32 = s) (rs1 : q_r σ 94 33 = (s + 1)) (rs2 : q_r σ 94 34 = (s + 2)) (rs3 : q_r σ 94 35 = (s + 3)) (rs4 : q_r σ 94 36 = (s + 4)) (rs5 : q_r σ 94 37 = (s + 5)) (hE : q_E σ) (h : inR ((y1 + y0) - 48) ∧ (J ω m_M_cut (d + 1) mc ms 0 0 142 [(0, .ref 94), (1, .int (zI (x1 + 1))), (3, .int (zI x3)), (4, .int (zI (min ((y1 + y0) - 48) 1000)))] [] σ Q)) : J ω m_M_cut (d + 1) mc ms 0 0 163 [(0, .ref 94), (1, .int (zI x1)), (3, .int (zI x3))] [.int (zI y0), .int (zI y1)] σ Q := by
  refine zj_iadd (y1 + y0) rfl d_M_cut_163 ?_
  refine j_bipush (v := zI 48) d_M_cut_164 (by decide) ?_
  refine zj_isub ((y1 + y0) - 48) (by omega) d_M_cut_166 ?_
  refine j_sipush (v := zI 1000) d_M_cut_167 (by decide) ?_
  obtain ⟨r27, h⟩ := h
  refine zj_min (List.mem_of_getElem? (i := 1791) (by decide +kernel)) d_M_cut_170 (Nat.succ_le_succ (Nat.zero_le _)) (Nat.le_of_ble_eq_true rfl) (Nat.zero_le _) (Nat.zero_le _) r27 ⟨by decide, by decide⟩ ?_
  refine j_istore (L' := [(4, .int (zI (min ((y1 + y0) - 48) 1000))), (0, .ref 94), (1, .int (zI x1)), (3, .int (zI x3))]) d_M_cut_173 (by decide) rfl ?_
  refine zj_iinc (L' := [(1, .int (zI (x1 + 1))), (4, .int (zI (min ((y1 + y0) - 48) 1000))), (0, .ref 94), (3, .int (zI x3))]) (x1 + 1) d_M_cut_175 2 rfl (by omega) (by decide) rfl ?_
  refine j_goto 142 d_M_cut_178 (by decide) ?_
  exact j_sel [2, 0, 3, 1] rfl h
set_option maxHeartbeats 2000000 in
theorem b_M_cut_125 {ω : q_W} {σ : q_H} {Q : q_R → q_H → Prop} {d mc ms : Nat} {x1 : Int} {x3 : Int} {y0 : Int} {s : Nat} (hs : s = 110 ∨ s = 116) (rs0 : q_r σ 94 32 = s) (rs1 : q_r σ 94 33 = (s + 1)) (rs2 : q_r σ 94 34 = (s + 2)) (rs3 : q_r σ 94 35 = (s + 3)) (rs4 : q_r σ 94 36 = (s + 4)) (rs5 : q_r σ 94 37 = (s + 5)) (hE : q_E σ) (h : (J ω m_M_token d 0 0 0 0 0 [(0, .ref 94), (1, .int (zI y0)), (2, .int (zI x3))] [] σ (q_kv (fun τ => J ω m_M_cut (d + 1) mc ms 0 0 129 [(0, .ref 94), (1, .int (zI x1))] [] τ Q)))) : J ω m_M_cut (d + 1) mc ms 0 0 125 [(0, .ref 94), (1, .int (zI x1)), (3, .int (zI x3))] [.int (zI y0), .ref 94] σ Q := by
  refine j_iload_n d_M_cut_125 2 rfl ?_
  refine j_callV m_M_token [.int (zI y0), .int (zI x3)] [] d 0 0 cV_M_193 d_M_cut_126 rfl rfl (tg_94 hE) (q_okE hE (by decide)) (Nat.le_of_ble_eq_true rfl) (Nat.le_refl _) (Nat.le_of_ble_eq_true rfl) (Nat.zero_le _) (Nat.zero_le _) h (fun v τ h => ?_) (fun x τ h => ?_)
  · obtain ⟨e1, h⟩ := h; cases e1; exact j_sel [0, 1] rfl h
  · obtain ⟨e1, h⟩ := h; cases e1
set_option maxHeartbeats 2000000 in
theorem b_M_cut_106 {ω : q_W} {σ : q_H} {Q : q_R → q_H → Prop} {d mc ms : Nat}  {s : Nat} (hs : s = 110 ∨ s = 116) (rs0 : q_r σ 94 32 = s) (rs1 : q_r σ 94 33 = (s + 1)) (rs2 : q_r σ 94 34 = (s + 2)) (rs3 : q_r σ 94 35 = (s + 3)) (rs4 : q_r σ 94 36 = (s + 4)) (rs5 : q_r σ 94 37 = (s + 5)) (hE : q_E σ) (h : (Q (.inl none) σ)) : J ω m_M_cut (d + 1) mc ms 0 0 106 [] [] σ Q := by
  exact j_vret d_M_cut_106 rfl (Nat.zero_le _) (Nat.zero_le _) h
set_option maxHeartbeats 2000000 in
theorem b_M_cut_80 {ω : q_W} {σ : q_H} {Q : q_R → q_H → Prop} {d mc ms : Nat} {x1 : Int} {x3 : Int} {y0 : Int} {y1 : Int64} {s : Nat} (hs : s = 110 ∨ s = 116) (rs0 : q_r σ 94 32 = s) (rs1 : q_r σ 94 33 = (s + 1)) (rs2 : q_r σ 94 34 = (s + 2)) (rs3 : q_r σ 94 35 = (s + 3)) (rs4 : q_r σ 94 36 = (s + 4)) (rs5 : q_r σ 94 37 = (s + 5)) (hE : q_E σ) (h : (J ω m_M_cut (d + 1) mc ms 0 0 51 [(0, .ref 94), (1, .int (zI (x1 + 1))), (3, .int (zI x3)), (4, .long (y1 ||| (zI y0).toInt64))] [] σ Q)) : J ω m_M_cut (d + 1) mc ms 0 0 80 [(0, .ref 94), (1, .int (zI x1)), (3, .int (zI x3))] [.int (zI y0), .long y1] σ Q := by
  refine j_i2l d_M_cut_80 ?_
  refine j_lor d_M_cut_81 ?_
  refine j_lstore (L' := [(4, .long (y1 ||| (zI y0).toInt64)), (0, .ref 94), (1, .int (zI x1)), (3, .int (zI x3))]) d_M_cut_82 (by decide) rfl ?_
  refine zj_iinc (L' := [(1, .int (zI (x1 + 1))), (4, .long (y1 ||| (zI y0).toInt64)), (0, .ref 94), (3, .int (zI x3))]) (x1 + 1) d_M_cut_84 2 rfl (by omega) (by decide) rfl ?_
  refine j_goto 51 d_M_cut_87 (by decide) ?_
  exact j_sel [2, 0, 3, 1] rfl h
set_option maxHeartbeats 2000000 in
theorem b_M_cut_282 {ω : q_W} {σ : q_H} {Q : q_R → q_H → Prop} {d mc ms : Nat} {x1 : Int} {x4 : Int} {x5 : Int} {s : Nat} (hs : s = 110 ∨ s = 116) (rs0 : q_r σ 94 32 = s) (rs1 : q_r σ 94 33 = (s + 1)) (rs2 : q_r σ 94 34 = (s + 2)) (rs3 : q_r σ 94 35 = (s + 3)) (rs4 : q_r σ 94 36 = (s + 4)) (rs5 : q_r σ 94 37 = (s + 5)) (hE : q_E σ) (h : inR x4 ∧ q_imp (x4 ≠ 0) ((J ω m_M_cut (d + 1) mc ms 0 0 293 [(0, .ref 94), (1, .int (zI x1)), (4, .int (zI x4))] [] σ Q)) ∧ q_imp (x4 = 0) (inR x5 ∧ q_imp (x5 ≠ 0) ((J ω m_M_cut (d + 1) mc ms 0 0 293 [(0, .ref 94), (1, .int (zI x1)), (4, .int (zI x4))] [] σ Q)) ∧ q_imp (x5 = 0) ((Q (.inl none) σ)))) : J ω m_M_cut (d + 1) mc ms 0 0 282 [(0, .ref 94), (1, .int (zI x1)), (4, .int (zI x4)), (5, .int (zI x5))] [] σ Q := by
  refine j_iload d_M_cut_282 2 rfl ?_
  obtain ⟨r28, h⟩ := h
  obtain ⟨h1, h2⟩ := h
  refine zj_if_ne 293 d_M_cut_284 (by decide) r28 (fun k29 => ?_) (fun k29 => ?_)
  · have h := h1 k29
    exact j_sel [0, 1, 2] rfl h
  · have h := h2 k29
    refine j_iload d_M_cut_287 3 rfl ?_
    obtain ⟨r30, h⟩ := h
    obtain ⟨h1, h2⟩ := h
    refine zj_if_ne 293 d_M_cut_289 (by decide) r30 (fun k31 => ?_) (fun k31 => ?_)
    · have h := h1 k31
      exact j_sel [0, 1, 2] rfl h
    · have h := h2 k31
      exact j_vret d_M_cut_292 rfl (Nat.zero_le _) (Nat.zero_le _) h
set_option maxHeartbeats 2000000 in
theorem b_M_cut_214 {ω : q_W} {σ : q_H} {Q : q_R → q_H → Prop} {d mc ms : Nat} {x1 : Int} {x4 : Int} {s : Nat} (hs : s = 110 ∨ s = 116) (rs0 : q_r σ 94 32 = s) (rs1 : q_r σ 94 33 = (s + 1)) (rs2 : q_r σ 94 34 = (s + 2)) (rs3 : q_r σ 94 35 = (s + 3)) (rs4 : q_r σ 94 36 = (s + 4)) (rs5 : q_r σ 94 37 = (s + 5)) (hE : q_E σ) (h : inR x4 ∧ q_imp (x4 ≤ 255) ((J ω m_M_cut (d + 1) mc ms 0 0 7 [(0, .ref 94), (1, .int (zI x1))] [] σ Q)) ∧ q_imp (x4 > 255) ((Q (.inl none) σ))) : J ω m_M_cut (d + 1) mc ms 0 0 214 [(0, .ref 94), (1, .int (zI x1)), (4, .int (zI x4))] [] σ Q := by
  refine j_iload d_M_cut_214 2 rfl ?_
  refine j_sipush (v := zI 255) d_M_cut_216 (by decide) ?_
  obtain ⟨r32, h⟩ := h
  obtain ⟨h1, h2⟩ := h
  refine zj_icmp_le 223 d_M_cut_219 (by decide) r32 ⟨by decide, by decide⟩ (fun k33 => ?_) (fun k33 => ?_)
  · have h := h1 k33
    refine j_goto 306 d_M_cut_223 (by decide) ?_
    refine j_goto 7 d_M_cut_306 (by decide) ?_
    exact j_sel [0, 1] rfl h
  · have h := h2 k33
    exact j_vret d_M_cut_222 rfl (Nat.zero_le _) (Nat.zero_le _) h
set_option maxHeartbeats 2000000 in
theorem b_M_cut_129 {ω : q_W} {σ : q_H} {Q : q_R → q_H → Prop} {d mc ms : Nat} {x1 : Int} {s : Nat} (hs : s = 110 ∨ s = 116) (rs0 : q_r σ 94 32 = s) (rs1 : q_r σ 94 33 = (s + 1)) (rs2 : q_r σ 94 34 = (s + 2)) (rs3 : q_r σ 94 35 = (s + 3)) (rs4 : q_r σ 94 36 = (s + 4)) (rs5 : q_r σ 94 37 = (s + 5)) (hE : q_E σ) (h : (J ω m_M_cut (d + 1) mc ms 0 0 7 [(0, .ref 94), (1, .int (zI x1))] [] σ Q)) : J ω m_M_cut (d + 1) mc ms 0 0 129 [(0, .ref 94), (1, .int (zI x1))] [] σ Q := by
  refine j_goto 306 d_M_cut_129 (by decide) ?_
  refine j_goto 7 d_M_cut_306 (by decide) ?_
  exact j_sel [0, 1] rfl h
set_option maxHeartbeats 2000000 in
theorem b_M_cut_293 {ω : q_W} {σ : q_H} {Q : q_R → q_H → Prop} {d mc ms : Nat} {x1 : Int} {x4 : Int} {s : Nat} (hs : s = 110 ∨ s = 116) (rs0 : q_r σ 94 32 = s) (rs1 : q_r σ 94 33 = (s + 1)) (rs2 : q_r σ 94 34 = (s + 2)) (rs3 : q_r σ 94 35 = (s + 3)) (rs4 : q_r σ 94 36 = (s + 4)) (rs5 : q_r σ 94 37 = (s + 5)) (hE : q_E σ) (h : inR x4 ∧ q_imp (x4 = 0) ((J ω m_M_cut (d + 1) mc ms 0 0 7 [(0, .ref 94), (1, .int (zI (x1 + 1)))] [] σ Q)) ∧ q_imp (x4 ≠ 0) ((J ω m_M_cut (d + 1) mc ms 0 0 7 [(0, .ref 94), (1, .int (zI (x1 + 2)))] [] σ Q))) : J ω m_M_cut (d + 1) mc ms 0 0 293 [(0, .ref 94), (1, .int (zI x1)), (4, .int (zI x4))] [] σ Q := by
  refine j_iload_n d_M_cut_293 1 rfl ?_
  refine j_iload d_M_cut_294 2 rfl ?_
  obtain ⟨r34, h⟩ := h
  obtain ⟨h1, h2⟩ := h
  refine zj_if_eq 303 d_M_cut_296 (by decide) r34 (fun k35 => ?_) (fun k35 => ?_)
  · have h := h1 k35
    refine j_iconst (v := zI 1) d_M_cut_303 (by decide) ?_
    refine zj_iadd (x1 + 1) (by omega) d_M_cut_304 ?_
    refine j_istore_n (L' := [(1, .int (zI (x1 + 1))), (0, .ref 94), (4, .int (zI x4))]) d_M_cut_305 (by decide) rfl ?_
    refine j_goto 7 d_M_cut_306 (by decide) ?_
    exact j_sel [1, 0] rfl h
  · have h := h2 k35
    refine j_iconst (v := zI 2) d_M_cut_299 (by decide) ?_
    refine j_goto 304 d_M_cut_300 (by decide) ?_
    refine zj_iadd (x1 + 2) (by omega) d_M_cut_304 ?_
    refine j_istore_n (L' := [(1, .int (zI (x1 + 2))), (0, .ref 94), (4, .int (zI x4))]) d_M_cut_305 (by decide) rfl ?_
    refine j_goto 7 d_M_cut_306 (by decide) ?_
    exact j_sel [1, 0] rfl h
