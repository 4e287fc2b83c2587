/-! stretches of bytecode as conditions: Ma_worth -/
theorem d_Ma_worth_0 : decode m_Ma_worth.2.1 0 = .ok (.iconst 0, 1) := by decide +kernel
theorem d_Ma_worth_1 : decode m_Ma_worth.2.1 1 = .ok (.istore_n 3, 1) := by decide +kernel
theorem d_Ma_worth_2 : decode m_Ma_worth.2.1 2 = .ok (.iload_n 1, 1) := by decide +kernel
theorem d_Ma_worth_3 : decode m_Ma_worth.2.1 3 = .ok (.istore 4, 2) := by decide +kernel
theorem d_Ma_worth_5 : decode m_Ma_worth.2.1 5 = .ok (.iload 4, 2) := by decide +kernel
theorem d_Ma_worth_7 : decode m_Ma_worth.2.1 7 = .ok (.iload_n 2, 1) := by decide +kernel
theorem d_Ma_worth_8 : decode m_Ma_worth.2.1 8 = .ok (.if_icmp .ge 214, 3) := by decide +kernel
theorem d_Ma_worth_11 : decode m_Ma_worth.2.1 11 = .ok (.aload_n 0, 1) := by decide +kernel
theorem d_Ma_worth_12 : decode m_Ma_worth.2.1 12 = .ok (.getfield 37, 3) := by decide +kernel
theorem d_Ma_worth_15 : decode m_Ma_worth.2.1 15 = .ok (.getfield 82, 3) := by decide +kernel
theorem d_Ma_worth_18 : decode m_Ma_worth.2.1 18 = .ok (.iload 4, 2) := by decide +kernel
theorem d_Ma_worth_20 : decode m_Ma_worth.2.1 20 = .ok (.iaload, 1) := by decide +kernel
theorem d_Ma_worth_21 : decode m_Ma_worth.2.1 21 = .ok (.istore 5, 2) := by decide +kernel
theorem d_Ma_worth_23 : decode m_Ma_worth.2.1 23 = .ok (.aload_n 0, 1) := by decide +kernel
theorem d_Ma_worth_24 : decode m_Ma_worth.2.1 24 = .ok (.getfield 37, 3) := by decide +kernel
theorem d_Ma_worth_27 : decode m_Ma_worth.2.1 27 = .ok (.getfield 85, 3) := by decide +kernel
theorem d_Ma_worth_30 : decode m_Ma_worth.2.1 30 = .ok (.iload 4, 2) := by decide +kernel
theorem d_Ma_worth_32 : decode m_Ma_worth.2.1 32 = .ok (.iaload, 1) := by decide +kernel
theorem d_Ma_worth_33 : decode m_Ma_worth.2.1 33 = .ok (.istore 6, 2) := by decide +kernel
theorem d_Ma_worth_35 : decode m_Ma_worth.2.1 35 = .ok (.iload 5, 2) := by decide +kernel
theorem d_Ma_worth_37 : decode m_Ma_worth.2.1 37 = .ok (.bipush 23, 2) := by decide +kernel
theorem d_Ma_worth_39 : decode m_Ma_worth.2.1 39 = .ok (.if_icmp .lt 38, 3) := by decide +kernel
theorem d_Ma_worth_42 : decode m_Ma_worth.2.1 42 = .ok (.iload_n 3, 1) := by decide +kernel
theorem d_Ma_worth_43 : decode m_Ma_worth.2.1 43 = .ok (.sipush 400, 3) := by decide +kernel
theorem d_Ma_worth_46 : decode m_Ma_worth.2.1 46 = .ok (.if_icmp .ge 31, 3) := by decide +kernel
theorem d_Ma_worth_49 : decode m_Ma_worth.2.1 49 = .ok (.aload_n 0, 1) := by decide +kernel
theorem d_Ma_worth_50 : decode m_Ma_worth.2.1 50 = .ok (.getfield 22, 3) := by decide +kernel
theorem d_Ma_worth_53 : decode m_Ma_worth.2.1 53 = .ok (.iload_n 3, 1) := by decide +kernel
theorem d_Ma_worth_54 : decode m_Ma_worth.2.1 54 = .ok (.aload_n 0, 1) := by decide +kernel
theorem d_Ma_worth_55 : decode m_Ma_worth.2.1 55 = .ok (.iload 5, 2) := by decide +kernel
theorem d_Ma_worth_57 : decode m_Ma_worth.2.1 57 = .ok (.aload_n 0, 1) := by decide +kernel
theorem d_Ma_worth_58 : decode m_Ma_worth.2.1 58 = .ok (.getfield 37, 3) := by decide +kernel
theorem d_Ma_worth_61 : decode m_Ma_worth.2.1 61 = .ok (.getfield 88, 3) := by decide +kernel
theorem d_Ma_worth_64 : decode m_Ma_worth.2.1 64 = .ok (.iload 4, 2) := by decide +kernel
theorem d_Ma_worth_66 : decode m_Ma_worth.2.1 66 = .ok (.iaload, 1) := by decide +kernel
theorem d_Ma_worth_67 : decode m_Ma_worth.2.1 67 = .ok (.invokevirtual 91, 3) := by decide +kernel
theorem d_Ma_worth_70 : decode m_Ma_worth.2.1 70 = .ok (.iastore, 1) := by decide +kernel
theorem d_Ma_worth_71 : decode m_Ma_worth.2.1 71 = .ok (.iinc 3 1, 3) := by decide +kernel
theorem d_Ma_worth_74 : decode m_Ma_worth.2.1 74 = .ok (.goto 142, 3) := by decide +kernel
theorem d_Ma_worth_77 : decode m_Ma_worth.2.1 77 = .ok (.iload 5, 2) := by decide +kernel
theorem d_Ma_worth_79 : decode m_Ma_worth.2.1 79 = .ok (.bipush 22, 2) := by decide +kernel
theorem d_Ma_worth_81 : decode m_Ma_worth.2.1 81 = .ok (.if_icmp .ne 50, 3) := by decide +kernel
theorem d_Ma_worth_84 : decode m_Ma_worth.2.1 84 = .ok (.iload_n 3, 1) := by decide +kernel
theorem d_Ma_worth_85 : decode m_Ma_worth.2.1 85 = .ok (.iconst 3, 1) := by decide +kernel
theorem d_Ma_worth_86 : decode m_Ma_worth.2.1 86 = .ok (.if_icmp .lt 45, 3) := by decide +kernel
theorem d_Ma_worth_89 : decode m_Ma_worth.2.1 89 = .ok (.iinc 3 (-2), 3) := by decide +kernel
theorem d_Ma_worth_92 : decode m_Ma_worth.2.1 92 = .ok (.aload_n 0, 1) := by decide +kernel
theorem d_Ma_worth_93 : decode m_Ma_worth.2.1 93 = .ok (.getfield 22, 3) := by decide +kernel
theorem d_Ma_worth_96 : decode m_Ma_worth.2.1 96 = .ok (.iload_n 3, 1) := by decide +kernel
theorem d_Ma_worth_97 : decode m_Ma_worth.2.1 97 = .ok (.iconst 1, 1) := by decide +kernel
theorem d_Ma_worth_98 : decode m_Ma_worth.2.1 98 = .ok (.isub, 1) := by decide +kernel
theorem d_Ma_worth_99 : decode m_Ma_worth.2.1 99 = .ok (.aload_n 0, 1) := by decide +kernel
theorem d_Ma_worth_100 : decode m_Ma_worth.2.1 100 = .ok (.getfield 22, 3) := by decide +kernel
theorem d_Ma_worth_103 : decode m_Ma_worth.2.1 103 = .ok (.iload_n 3, 1) := by decide +kernel
theorem d_Ma_worth_104 : decode m_Ma_worth.2.1 104 = .ok (.iconst 1, 1) := by decide +kernel
theorem d_Ma_worth_105 : decode m_Ma_worth.2.1 105 = .ok (.isub, 1) := by decide +kernel
theorem d_Ma_worth_106 : decode m_Ma_worth.2.1 106 = .ok (.iaload, 1) := by decide +kernel
theorem d_Ma_worth_107 : decode m_Ma_worth.2.1 107 = .ok (.ifCond .eq 12, 3) := by decide +kernel
theorem d_Ma_worth_110 : decode m_Ma_worth.2.1 110 = .ok (.aload_n 0, 1) := by decide +kernel
theorem d_Ma_worth_111 : decode m_Ma_worth.2.1 111 = .ok (.getfield 22, 3) := by decide +kernel
theorem d_Ma_worth_114 : decode m_Ma_worth.2.1 114 = .ok (.iload_n 3, 1) := by decide +kernel
theorem d_Ma_worth_115 : decode m_Ma_worth.2.1 115 = .ok (.iaload, 1) := by decide +kernel
theorem d_Ma_worth_116 : decode m_Ma_worth.2.1 116 = .ok (.goto 11, 3) := by decide +kernel
theorem d_Ma_worth_119 : decode m_Ma_worth.2.1 119 = .ok (.aload_n 0, 1) := by decide +kernel
theorem d_Ma_worth_120 : decode m_Ma_worth.2.1 120 = .ok (.getfield 22, 3) := by decide +kernel
theorem d_Ma_worth_123 : decode m_Ma_worth.2.1 123 = .ok (.iload_n 3, 1) := by decide +kernel
theorem d_Ma_worth_124 : decode m_Ma_worth.2.1 124 = .ok (.iconst 1, 1) := by decide +kernel
theorem d_Ma_worth_125 : decode m_Ma_worth.2.1 125 = .ok (.iadd, 1) := by decide +kernel
theorem d_Ma_worth_126 : decode m_Ma_worth.2.1 126 = .ok (.iaload, 1) := by decide +kernel
theorem d_Ma_worth_127 : decode m_Ma_worth.2.1 127 = .ok (.iastore, 1) := by decide +kernel
theorem d_Ma_worth_128 : decode m_Ma_worth.2.1 128 = .ok (.goto 88, 3) := by decide +kernel
theorem d_Ma_worth_131 : decode m_Ma_worth.2.1 131 = .ok (.iload 5, 2) := by decide +kernel
theorem d_Ma_worth_133 : decode m_Ma_worth.2.1 133 = .ok (.bipush 19, 2) := by decide +kernel
theorem d_Ma_worth_135 : decode m_Ma_worth.2.1 135 = .ok (.if_icmp .lt 38, 3) := by decide +kernel
theorem d_Ma_worth_138 : decode m_Ma_worth.2.1 138 = .ok (.iload_n 3, 1) := by decide +kernel
theorem d_Ma_worth_139 : decode m_Ma_worth.2.1 139 = .ok (.iconst 1, 1) := by decide +kernel
theorem d_Ma_worth_140 : decode m_Ma_worth.2.1 140 = .ok (.if_icmp .lt 33, 3) := by decide +kernel
theorem d_Ma_worth_143 : decode m_Ma_worth.2.1 143 = .ok (.aload_n 0, 1) := by decide +kernel
theorem d_Ma_worth_144 : decode m_Ma_worth.2.1 144 = .ok (.getfield 22, 3) := by decide +kernel
theorem d_Ma_worth_147 : decode m_Ma_worth.2.1 147 = .ok (.iload_n 3, 1) := by decide +kernel
theorem d_Ma_worth_148 : decode m_Ma_worth.2.1 148 = .ok (.iconst 1, 1) := by decide +kernel
theorem d_Ma_worth_149 : decode m_Ma_worth.2.1 149 = .ok (.isub, 1) := by decide +kernel
theorem d_Ma_worth_150 : decode m_Ma_worth.2.1 150 = .ok (.iload 5, 2) := by decide +kernel
theorem d_Ma_worth_152 : decode m_Ma_worth.2.1 152 = .ok (.aload_n 0, 1) := by decide +kernel
theorem d_Ma_worth_153 : decode m_Ma_worth.2.1 153 = .ok (.getfield 22, 3) := by decide +kernel
theorem d_Ma_worth_156 : decode m_Ma_worth.2.1 156 = .ok (.iload_n 3, 1) := by decide +kernel
theorem d_Ma_worth_157 : decode m_Ma_worth.2.1 157 = .ok (.iconst 1, 1) := by decide +kernel
theorem d_Ma_worth_158 : decode m_Ma_worth.2.1 158 = .ok (.isub, 1) := by decide +kernel
theorem d_Ma_worth_159 : decode m_Ma_worth.2.1 159 = .ok (.iaload, 1) := by decide +kernel
theorem d_Ma_worth_160 : decode m_Ma_worth.2.1 160 = .ok (.invokestatic 94, 3) := by decide +kernel
theorem d_Ma_worth_163 : decode m_Ma_worth.2.1 163 = .ok (.iload 6, 2) := by decide +kernel
theorem d_Ma_worth_165 : decode m_Ma_worth.2.1 165 = .ok (.invokestatic 72, 3) := by decide +kernel
theorem d_Ma_worth_168 : decode m_Ma_worth.2.1 168 = .ok (.iand, 1) := by decide +kernel
theorem d_Ma_worth_169 : decode m_Ma_worth.2.1 169 = .ok (.iastore, 1) := by decide +kernel
theorem d_Ma_worth_170 : decode m_Ma_worth.2.1 170 = .ok (.goto 46, 3) := by decide +kernel
theorem d_Ma_worth_173 : decode m_Ma_worth.2.1 173 = .ok (.iload_n 3, 1) := by decide +kernel
theorem d_Ma_worth_174 : decode m_Ma_worth.2.1 174 = .ok (.iconst 2, 1) := by decide +kernel
theorem d_Ma_worth_175 : decode m_Ma_worth.2.1 175 = .ok (.if_icmp .lt 41, 3) := by decide +kernel
theorem d_Ma_worth_178 : decode m_Ma_worth.2.1 178 = .ok (.iinc 3 (-1), 3) := by decide +kernel
theorem d_Ma_worth_181 : decode m_Ma_worth.2.1 181 = .ok (.aload_n 0, 1) := by decide +kernel
theorem d_Ma_worth_182 : decode m_Ma_worth.2.1 182 = .ok (.getfield 22, 3) := by decide +kernel
theorem d_Ma_worth_185 : decode m_Ma_worth.2.1 185 = .ok (.iload_n 3, 1) := by decide +kernel
theorem d_Ma_worth_186 : decode m_Ma_worth.2.1 186 = .ok (.iconst 1, 1) := by decide +kernel
theorem d_Ma_worth_187 : decode m_Ma_worth.2.1 187 = .ok (.isub, 1) := by decide +kernel
theorem d_Ma_worth_188 : decode m_Ma_worth.2.1 188 = .ok (.iload 5, 2) := by decide +kernel
theorem d_Ma_worth_190 : decode m_Ma_worth.2.1 190 = .ok (.aload_n 0, 1) := by decide +kernel
theorem d_Ma_worth_191 : decode m_Ma_worth.2.1 191 = .ok (.getfield 22, 3) := by decide +kernel
theorem d_Ma_worth_194 : decode m_Ma_worth.2.1 194 = .ok (.iload_n 3, 1) := by decide +kernel
theorem d_Ma_worth_195 : decode m_Ma_worth.2.1 195 = .ok (.iconst 1, 1) := by decide +kernel
theorem d_Ma_worth_196 : decode m_Ma_worth.2.1 196 = .ok (.isub, 1) := by decide +kernel
theorem d_Ma_worth_197 : decode m_Ma_worth.2.1 197 = .ok (.iaload, 1) := by decide +kernel
theorem d_Ma_worth_198 : decode m_Ma_worth.2.1 198 = .ok (.aload_n 0, 1) := by decide +kernel
theorem d_Ma_worth_199 : decode m_Ma_worth.2.1 199 = .ok (.getfield 22, 3) := by decide +kernel
theorem d_Ma_worth_202 : decode m_Ma_worth.2.1 202 = .ok (.iload_n 3, 1) := by decide +kernel
theorem d_Ma_worth_203 : decode m_Ma_worth.2.1 203 = .ok (.iaload, 1) := by decide +kernel
theorem d_Ma_worth_204 : decode m_Ma_worth.2.1 204 = .ok (.iload 6, 2) := by decide +kernel
theorem d_Ma_worth_206 : decode m_Ma_worth.2.1 206 = .ok (.invokestatic 97, 3) := by decide +kernel
theorem d_Ma_worth_209 : decode m_Ma_worth.2.1 209 = .ok (.iload 6, 2) := by decide +kernel
theorem d_Ma_worth_211 : decode m_Ma_worth.2.1 211 = .ok (.invokestatic 72, 3) := by decide +kernel
theorem d_Ma_worth_214 : decode m_Ma_worth.2.1 214 = .ok (.iand, 1) := by decide +kernel
theorem d_Ma_worth_215 : decode m_Ma_worth.2.1 215 = .ok (.iastore, 1) := by decide +kernel
theorem d_Ma_worth_216 : decode m_Ma_worth.2.1 216 = .ok (.iinc 4 1, 3) := by decide +kernel
theorem d_Ma_worth_219 : decode m_Ma_worth.2.1 219 = .ok (.goto (-214), 3) := by decide +kernel
theorem d_Ma_worth_222 : decode m_Ma_worth.2.1 222 = .ok (.iload_n 3, 1) := by decide +kernel
theorem d_Ma_worth_223 : decode m_Ma_worth.2.1 223 = .ok (.ifCond .le 12, 3) := by decide +kernel
theorem d_Ma_worth_226 : decode m_Ma_worth.2.1 226 = .ok (.aload_n 0, 1) := by decide +kernel
theorem d_Ma_worth_227 : decode m_Ma_worth.2.1 227 = .ok (.getfield 22, 3) := by decide +kernel
theorem d_Ma_worth_230 : decode m_Ma_worth.2.1 230 = .ok (.iconst 0, 1) := by decide +kernel
theorem d_Ma_worth_231 : decode m_Ma_worth.2.1 231 = .ok (.iaload, 1) := by decide +kernel
theorem d_Ma_worth_232 : decode m_Ma_worth.2.1 232 = .ok (.goto 4, 3) := by decide +kernel
theorem d_Ma_worth_235 : decode m_Ma_worth.2.1 235 = .ok (.iconst 0, 1) := by decide +kernel
theorem d_Ma_worth_236 : decode m_Ma_worth.2.1 236 = .ok (.ireturn, 1) := by decide +kernel
theorem f_Ma_22 : q_FR "ProofHall$Machine" 22 4 4 := ⟨"[I", by decide, ⟨_, _, _, rfl, by decide, rfl, Or.inl (List.mem_of_getElem? (i := 321) (by decide +kernel))⟩⟩
theorem f_Ma_82 : q_FR "ProofHall$Machine" 82 2 18 := ⟨"[I", by decide, ⟨_, _, _, rfl, by decide, rfl, Or.inl (List.mem_of_getElem? (i := 252) (by decide +kernel))⟩⟩
theorem f_Ma_85 : q_FR "ProofHall$Machine" 85 2 20 := ⟨"[I", by decide, ⟨_, _, _, rfl, by decide, rfl, Or.inl (List.mem_of_getElem? (i := 260) (by decide +kernel))⟩⟩
theorem f_Ma_88 : q_FR "ProofHall$Machine" 88 2 19 := ⟨"[I", by decide, ⟨_, _, _, rfl, by decide, rfl, Or.inl (List.mem_of_getElem? (i := 256) (by decide +kernel))⟩⟩
theorem cd_Ma_fetch : q_cd m_Ma_fetch := ⟨by decide +kernel, List.mem_of_getElem? (i := 9) (by decide +kernel), Or.inl ⟨rfl, List.mem_of_getElem? (i := 1351) (by decide +kernel)⟩⟩
theorem cV_Ma_91 : q_CV "ProofHall$Machine" 91 4 m_Ma_fetch 2 := ⟨⟨cd_Ma_fetch, by decide, by decide, by decide, by decide +kernel⟩, Or.inl (List.mem_of_getElem? (i := 1348) (by decide +kernel)), List.mem_of_getElem? (i := 1350) (by decide +kernel), _, _, _, rfl, by decide +kernel⟩
theorem cd_Ma_single : q_cd m_Ma_single := ⟨by decide +kernel, List.mem_of_getElem? (i := 9) (by decide +kernel), Or.inl ⟨rfl, List.mem_of_getElem? (i := 1354) (by decide +kernel)⟩⟩
theorem cS_Ma_94 : q_CS "ProofHall$Machine" 94 m_Ma_single 2 := ⟨⟨cd_Ma_single, by decide, by decide, by decide, by decide +kernel⟩, Or.inl (List.mem_of_getElem? (i := 1352) (by decide +kernel)), List.mem_of_getElem? (i := 1353) (by decide +kernel)⟩
theorem cd_Ma_both : q_cd m_Ma_both := ⟨by decide +kernel, List.mem_of_getElem? (i := 9) (by decide +kernel), Or.inl ⟨rfl, List.mem_of_getElem? (i := 1363) (by decide +kernel)⟩⟩
theorem cS_Ma_97 : q_CS "ProofHall$Machine" 97 m_Ma_both 4 := ⟨⟨cd_Ma_both, by decide, by decide, by decide, by decide +kernel⟩, Or.inl (List.mem_of_getElem? (i := 1361) (by decide +kernel)), List.mem_of_getElem? (i := 1362) (by decide +kernel)⟩
set_option maxHeartbeats 2000000 in
theorem b_Ma_worth_0 {ω : q_W} {σ : q_H} {Q : q_R → q_H → Prop} {d mc ms : Nat} {x1 : Int} {x2 : Int} {m : Nat} (hm : m = 43 ∨ m = 87) {p : Nat} (hp : p = 16 ∨ p = 29) {w : Nat} (hw : w = 42 ∨ w = 91) (rm5 : q_r σ m 5 = p) (rm6 : q_r σ m 6 = w) (hE : q_E σ) (h : (J ω m_Ma_worth (d + 1) mc ms 0 0 5 [(0, .ref m), (2, .int (zI x2)), (3, .int (zI 0)), (4, .int (zI x1))] [] σ Q)) : J ω m_Ma_worth (d + 1) mc ms 0 0 0 [(0, .ref m), (1, .int (zI x1)), (2, .int (zI x2))] [] σ Q := by
  refine j_iconst (v := zI 0) d_Ma_worth_0 (by decide) ?_
  refine j_istore_n (L' := [(3, .int (zI 0)), (0, .ref m), (1, .int (zI x1)), (2, .int (zI x2))]) d_Ma_worth_1 (by decide) rfl ?_
  refine j_iload_n d_Ma_worth_2 2 rfl ?_
  refine j_istore (L' := [(4, .int (zI x1)), (3, .int (zI 0)), (0, .ref m), (1, .int (zI x1)), (2, .int (zI x2))]) d_Ma_worth_3 (by decide) rfl ?_
  exact j_sel [2, 4, 1, 0] rfl h
set_option maxHeartbeats 2000000 in
theorem b_Ma_worth_5 {ω : q_W} {σ : q_H} {Q : q_R → q_H → Prop} {d mc ms : Nat} {x2 : Int} {x3 : Int} {x4 : Int} {m : Nat} (hm : m = 43 ∨ m = 87) {p : Nat} (hp : p = 16 ∨ p = 29) {w : Nat} (hw : w = 42 ∨ w = 91) (rm5 : q_r σ m 5 = p) (rm6 : q_r σ m 6 = w) (hE : q_E σ) (h : inR x4 ∧ inR x2 ∧ q_imp (x4 ≥ x2) (inR x3 ∧ q_imp (x3 ≤ 0) ((Q (.inl (some (.int (zI 0)))) σ)) ∧ q_imp (0 < x3) ((Q (.inl (some (.int (zI (z σ (m + 3) 0))))) σ))) ∧ q_imp (x4 < x2) ((0 ≤ x4 ∧ x4 < 4096) ∧ q_imp ((z σ (p + 10) x4.toNat) < 23) ((J ω m_Ma_worth (d + 1) mc ms 0 0 77 [(0, .ref m), (2, .int (zI x2)), (3, .int (zI x3)), (4, .int (zI x4)), (5, .int (zI (z σ (p + 10) x4.toNat))), (6, .int (zI (z σ (p + 12) x4.toNat)))] [] σ Q)) ∧ q_imp ((z σ (p + 10) x4.toNat) ≥ 23) (inR x3 ∧ q_imp (x3 ≥ 400) ((J ω m_Ma_worth (d + 1) mc ms 0 0 77 [(0, .ref m), (2, .int (zI x2)), (3, .int (zI x3)), (4, .int (zI x4)), (5, .int (zI (z σ (p + 10) x4.toNat))), (6, .int (zI (z σ (p + 12) x4.toNat)))] [] σ Q)) ∧ q_imp (x3 < 400) ((J ω m_Ma_fetch d 0 0 0 0 0 [(0, .ref m), (1, .int (zI (z σ (p + 10) x4.toNat))), (2, .int (zI (z σ (p + 11) x4.toNat)))] [] σ (q_ki (fun v τ => J ω m_Ma_worth (d + 1) mc ms 0 0 70 [(0, .ref m), (2, .int (zI x2)), (3, .int (zI x3)), (4, .int (zI x4))] [.int (zI v), .int (zI x3), .ref (m + 3)] τ Q))))))) : J ω m_Ma_worth (d + 1) mc ms 0 0 5 [(0, .ref m), (2, .int (zI x2)), (3, .int (zI x3)), (4, .int (zI x4))] [] σ Q := by
  refine j_iload d_Ma_worth_5 3 rfl ?_
  refine j_iload_n d_Ma_worth_7 1 rfl ?_
  obtain ⟨r1, h⟩ := h
  obtain ⟨r2, h⟩ := h
  obtain ⟨h1, h2⟩ := h
  refine zj_icmp_ge 222 d_Ma_worth_8 (by decide) r1 r2 (fun k3 => ?_) (fun k3 => ?_)
  · have h := h1 k3
    refine j_iload_n d_Ma_worth_222 2 rfl ?_
    obtain ⟨r4, h⟩ := h
    obtain ⟨h1, h2⟩ := h
    refine zj_if_le 235 d_Ma_worth_223 (by decide) r4 (fun k5 => ?_) (fun k5 => ?_)
    · have h := h1 k5
      refine j_iconst (v := zI 0) d_Ma_worth_235 (by decide) ?_
      exact zj_iret d_Ma_worth_236 rfl (Nat.zero_le _) (Nat.zero_le _) h
    · have h := h2 k5
      refine j_aload_n d_Ma_worth_226 0 rfl ?_
      refine j_getR (m + 3) f_Ma_22 d_Ma_worth_227 (tY_m_0 hE hm) (q_okE hE (by omega)) (rY_m_4 hE hm) (by omega) ?_
      refine j_iconst (v := zI 0) d_Ma_worth_230 (by decide) ?_
      refine zj_iald (z σ (m + 3) 0) d_Ma_worth_231 (tY_m_3 hE hm) (q_okE hE (by omega)) ⟨by decide, by decide⟩ (by decide) (q_z _ _ _) ?_
      refine j_goto 236 d_Ma_worth_232 (by decide) ?_
      exact zj_iret d_Ma_worth_236 rfl (Nat.zero_le _) (Nat.zero_le _) h
  · have h := h2 k3
    refine j_aload_n d_Ma_worth_11 0 rfl ?_
    refine j_getR p f_Ma_37 d_Ma_worth_12 (tY_m_0 hE hm) (q_okE hE (by omega)) (rm5) (by omega) ?_
    refine j_getR (p + 10) f_Ma_82 d_Ma_worth_15 (tY_p_0 hE hp) (q_okE hE (by omega)) (rY_p_18 hE hp) (by omega) ?_
    refine j_iload d_Ma_worth_18 3 rfl ?_
    obtain ⟨c6, h⟩ := h
    refine zj_iald (z σ (p + 10) x4.toNat) d_Ma_worth_20 (tY_p_10 hE hp) (q_okE hE (by omega)) c6 (by decide) (q_z _ _ _) ?_
    refine j_istore (L' := [(5, .int (zI (z σ (p + 10) x4.toNat))), (0, .ref m), (2, .int (zI x2)), (3, .int (zI x3)), (4, .int (zI x4))]) d_Ma_worth_21 (by decide) rfl ?_
    refine j_aload_n d_Ma_worth_23 1 rfl ?_
    refine j_getR p f_Ma_37 d_Ma_worth_24 (tY_m_0 hE hm) (q_okE hE (by omega)) (rm5) (by omega) ?_
    refine j_getR (p + 12) f_Ma_85 d_Ma_worth_27 (tY_p_0 hE hp) (q_okE hE (by omega)) (rY_p_20 hE hp) (by omega) ?_
    refine j_iload d_Ma_worth_30 4 rfl ?_
    refine zj_iald (z σ (p + 12) x4.toNat) d_Ma_worth_32 (tY_p_12 hE hp) (q_okE hE (by omega)) c6 (by decide) (q_z _ _ _) ?_
    refine j_istore (L' := [(6, .int (zI (z σ (p + 12) x4.toNat))), (5, .int (zI (z σ (p + 10) x4.toNat))), (0, .ref m), (2, .int (zI x2)), (3, .int (zI x3)), (4, .int (zI x4))]) d_Ma_worth_33 (by decide) rfl ?_
    refine j_iload d_Ma_worth_35 1 rfl ?_
    refine j_bipush (v := zI 23) d_Ma_worth_37 (by decide) ?_
    obtain ⟨h1, h2⟩ := h
    refine zj_icmp_lt 77 d_Ma_worth_39 (by decide) (z_R _ _ _) ⟨by decide, by decide⟩ (fun k7 => ?_) (fun k7 => ?_)
    · have h := h1 k7
      exact j_sel [2, 3, 4, 5, 1, 0] rfl h
    · have h := h2 k7
      refine j_iload_n d_Ma_worth_42 4 rfl ?_
      refine j_sipush (v := zI 400) d_Ma_worth_43 (by decide) ?_
      obtain ⟨r8, h⟩ := h
      obtain ⟨h1, h2⟩ := h
      refine zj_icmp_ge 77 d_Ma_worth_46 (by decide) r8 ⟨by decide, by decide⟩ (fun k9 => ?_) (fun k9 => ?_)
      · have h := h1 k9
        exact j_sel [2, 3, 4, 5, 1, 0] rfl h
      · have h := h2 k9
        refine j_aload_n d_Ma_worth_49 2 rfl ?_
        refine j_getR (m + 3) f_Ma_22 d_Ma_worth_50 (tY_m_0 hE hm) (q_okE hE (by omega)) (rY_m_4 hE hm) (by omega) ?_
        refine j_iload_n d_Ma_worth_53 4 rfl ?_
        refine j_aload_n d_Ma_worth_54 2 rfl ?_
        refine j_iload d_Ma_worth_55 1 rfl ?_
        refine j_aload_n d_Ma_worth_57 2 rfl ?_
        refine j_getR p f_Ma_37 d_Ma_worth_58 (tY_m_0 hE hm) (q_okE hE (by omega)) (rm5) (by omega) ?_
        refine j_getR (p + 11) f_Ma_88 d_Ma_worth_61 (tY_p_0 hE hp) (q_okE hE (by omega)) (rY_p_19 hE hp) (by omega) ?_
        refine j_iload d_Ma_worth_64 5 rfl ?_
        refine zj_iald (z σ (p + 11) x4.toNat) d_Ma_worth_66 (tY_p_11 hE hp) (q_okE hE (by omega)) c6 (by decide) (q_z _ _ _) ?_
        refine j_callV m_Ma_fetch [.int (zI (z σ (p + 10) x4.toNat)), .int (zI (z σ (p + 11) x4.toNat))] [.int (zI x3), .ref (m + 3)] d 0 0 cV_Ma_91 d_Ma_worth_67 rfl rfl (tY_m_0 hE hm) (q_okE hE (by omega)) (Nat.le_of_ble_eq_true rfl) (Nat.le_refl _) (Nat.le_of_ble_eq_true rfl) (Nat.zero_le _) (Nat.zero_le _) h (fun v τ h => ?_) (fun x τ h => ?_)
        · obtain ⟨v, hv, e1, h⟩ := h; cases e1; exact j_sel [2, 3, 4, 5] rfl h
        · obtain ⟨v, hv, e1, h⟩ := h; cases e1
set_option maxHeartbeats 2000000 in
theorem b_Ma_worth_77 {ω : q_W} {σ : q_H} {Q : q_R → q_H → Prop} {d mc ms : Nat} {x2 : Int} {x3 : Int} {x4 : Int} {x5 : Int} {x6 : Int} {m : Nat} (hm : m = 43 ∨ m = 87) {p : Nat} (hp : p = 16 ∨ p = 29) {w : Nat} (hw : w = 42 ∨ w = 91) (rm5 : q_r σ m 5 = p) (rm6 : q_r σ m 6 = w) (hE : q_E σ) (h : inR x5 ∧ q_imp (x5 ≠ 22) ((J ω m_Ma_worth (d + 1) mc ms 0 0 131 [(0, .ref m), (2, .int (zI x2)), (3, .int (zI x3)), (4, .int (zI x4)), (5, .int (zI x5)), (6, .int (zI x6))] [] σ Q)) ∧ q_imp (x5 = 22) (inR x3 ∧ q_imp (x3 < 3) ((J ω m_Ma_worth (d + 1) mc ms 0 0 131 [(0, .ref m), (2, .int (zI x2)), (3, .int (zI x3)), (4, .int (zI x4)), (5, .int (zI x5)), (6, .int (zI x6))] [] σ Q)) ∧ q_imp (x3 ≥ 3) ((0 ≤ (x3 - 3) ∧ (x3 - 3) < 400) ∧ q_imp ((z σ (m + 3) (x3 - 3).toNat) = 0) ((0 ≤ (x3 - 1) ∧ (x3 - 1) < 400) ∧ (J ω m_Ma_worth (d + 1) mc ms 0 0 5 [(0, .ref m), (2, .int (zI x2)), (3, .int (zI (x3 - 2))), (4, .int (zI (x4 + 1)))] [] (zs σ (m + 3) (x3 - 3).toNat (z σ (m + 3) (x3 - 1).toNat)) Q)) ∧ q_imp ((z σ (m + 3) (x3 - 3).toNat) ≠ 0) ((0 ≤ (x3 - 2) ∧ (x3 - 2) < 400) ∧ (J ω m_Ma_worth (d + 1) mc ms 0 0 5 [(0, .ref m), (2, .int (zI x2)), (3, .int (zI (x3 - 2))), (4, .int (zI (x4 + 1)))] [] (zs σ (m + 3) (x3 - 3).toNat (z σ (m + 3) (x3 - 2).toNat)) Q))))) : J ω m_Ma_worth (d + 1) mc ms 0 0 77 [(0, .ref m), (2, .int (zI x2)), (3, .int (zI x3)), (4, .int (zI x4)), (5, .int (zI x5)), (6, .int (zI x6))] [] σ Q := by
  refine j_iload d_Ma_worth_77 4 rfl ?_
  refine j_bipush (v := zI 22) d_Ma_worth_79 (by decide) ?_
  obtain ⟨r10, h⟩ := h
  obtain ⟨h1, h2⟩ := h
  refine zj_icmp_ne 131 d_Ma_worth_81 (by decide) r10 ⟨by decide, by decide⟩ (fun k11 => ?_) (fun k11 => ?_)
  · have h := h1 k11
    exact j_sel [0, 1, 2, 3, 4, 5] rfl h
  · have h := h2 k11
    refine j_iload_n d_Ma_worth_84 2 rfl ?_
    refine j_iconst (v := zI 3) d_Ma_worth_85 (by decide) ?_
    obtain ⟨r12, h⟩ := h
    obtain ⟨h1, h2⟩ := h
    refine zj_icmp_lt 131 d_Ma_worth_86 (by decide) r12 ⟨by decide, by decide⟩ (fun k13 => ?_) (fun k13 => ?_)
    · have h := h1 k13
      exact j_sel [0, 1, 2, 3, 4, 5] rfl h
    · have h := h2 k13
      refine zj_iinc (L' := [(3, .int (zI (x3 - 2))), (0, .ref m), (2, .int (zI x2)), (4, .int (zI x4)), (5, .int (zI x5)), (6, .int (zI x6))]) (x3 - 2) d_Ma_worth_89 2 rfl (by omega) (by decide) rfl ?_
      refine j_aload_n d_Ma_worth_92 1 rfl ?_
      refine j_getR (m + 3) f_Ma_22 d_Ma_worth_93 (tY_m_0 hE hm) (q_okE hE (by omega)) (rY_m_4 hE hm) (by omega) ?_
      refine j_iload_n d_Ma_worth_96 0 rfl ?_
      refine j_iconst (v := zI 1) d_Ma_worth_97 (by decide) ?_
      refine zj_isub (x3 - 3) (by omega) d_Ma_worth_98 ?_
      refine j_aload_n d_Ma_worth_99 1 rfl ?_
      refine j_getR (m + 3) f_Ma_22 d_Ma_worth_100 (tY_m_0 hE hm) (q_okE hE (by omega)) (rY_m_4 hE hm) (by omega) ?_
      refine j_iload_n d_Ma_worth_103 0 rfl ?_
      refine j_iconst (v := zI 1) d_Ma_worth_104 (by decide) ?_
      refine zj_isub (x3 - 3) (by omega) d_Ma_worth_105 ?_
      obtain ⟨c14, h⟩ := h
      refine zj_iald (z σ (m + 3) (x3 - 3).toNat) d_Ma_worth_106 (tY_m_3 hE hm) (q_okE hE (by omega)) c14 (by decide) (q_z _ _ _) ?_
      obtain ⟨h1, h2⟩ := h
      refine zj_if_eq 119 d_Ma_worth_107 (by decide) (z_R _ _ _) (fun k15 => ?_) (fun k15 => ?_)
      · have h := h1 k15
        refine j_aload_n d_Ma_worth_119 1 rfl ?_
        refine j_getR (m + 3) f_Ma_22 d_Ma_worth_120 (tY_m_0 hE hm) (q_okE hE (by omega)) (rY_m_4 hE hm) (by omega) ?_
        refine j_iload_n d_Ma_worth_123 0 rfl ?_
        refine j_iconst (v := zI 1) d_Ma_worth_124 (by decide) ?_
        refine zj_iadd (x3 - 1) (by omega) d_Ma_worth_125 ?_
        obtain ⟨c16, h⟩ := h
        refine zj_iald (z σ (m + 3) (x3 - 1).toNat) d_Ma_worth_126 (tY_m_3 hE hm) (q_okE hE (by omega)) c16 (by decide) (q_z _ _ _) ?_
        refine zj_iast d_Ma_worth_127 (tY_m_3 hE hm) (q_okE hE (by omega)) c14 (by decide) ?_
        refine j_goto 216 d_Ma_worth_128 (by decide) ?_
        refine zj_iinc (L' := [(4, .int (zI (x4 + 1))), (3, .int (zI (x3 - 2))), (0, .ref m), (2, .int (zI x2)), (5, .int (zI x5)), (6, .int (zI x6))]) (x4 + 1) d_Ma_worth_216 3 rfl (by omega) (by decide) rfl ?_
        refine j_goto 5 d_Ma_worth_219 (by decide) ?_
        exact j_sel [2, 3, 1, 0] rfl h
      · have h := h2 k15
        refine j_aload_n d_Ma_worth_110 1 rfl ?_
        refine j_getR (m + 3) f_Ma_22 d_Ma_worth_111 (tY_m_0 hE hm) (q_okE hE (by omega)) (rY_m_4 hE hm) (by omega) ?_
        refine j_iload_n d_Ma_worth_114 0 rfl ?_
        obtain ⟨c17, h⟩ := h
        refine zj_iald (z σ (m + 3) (x3 - 2).toNat) d_Ma_worth_115 (tY_m_3 hE hm) (q_okE hE (by omega)) c17 (by decide) (q_z _ _ _) ?_
        refine j_goto 127 d_Ma_worth_116 (by decide) ?_
        refine zj_iast d_Ma_worth_127 (tY_m_3 hE hm) (q_okE hE (by omega)) c14 (by decide) ?_
        refine j_goto 216 d_Ma_worth_128 (by decide) ?_
        refine zj_iinc (L' := [(4, .int (zI (x4 + 1))), (3, .int (zI (x3 - 2))), (0, .ref m), (2, .int (zI x2)), (5, .int (zI x5)), (6, .int (zI x6))]) (x4 + 1) d_Ma_worth_216 3 rfl (by omega) (by decide) rfl ?_
        refine j_goto 5 d_Ma_worth_219 (by decide) ?_
        exact j_sel [2, 3, 1, 0] rfl h
set_option maxHeartbeats 2000000 in
theorem b_Ma_worth_70 {ω : q_W} {σ : q_H} {Q : q_R → q_H → Prop} {d mc ms : Nat} {x2 : Int} {x3 : Int} {x4 : Int} {y0 : Int} {y1 : Int} {m : Nat} (hm : m = 43 ∨ m = 87) {p : Nat} (hp : p = 16 ∨ p = 29) {w : Nat} (hw : w = 42 ∨ w = 91) (rm5 : q_r σ m 5 = p) (rm6 : q_r σ m 6 = w) (hE : q_E σ) (h : (0 ≤ y1 ∧ y1 < 400) ∧ (J ω m_Ma_worth (d + 1) mc ms 0 0 5 [(0, .ref m), (2, .int (zI x2)), (3, .int (zI (x3 + 1))), (4, .int (zI (x4 + 1)))] [] (zs σ (m + 3) y1.toNat y0) Q)) : J ω m_Ma_worth (d + 1) mc ms 0 0 70 [(0, .ref m), (2, .int (zI x2)), (3, .int (zI x3)), (4, .int (zI x4))] [.int (zI y0), .int (zI y1), .ref (m + 3)] σ Q := by
  obtain ⟨c18, h⟩ := h
  refine zj_iast d_Ma_worth_70 (tY_m_3 hE hm) (q_okE hE (by omega)) c18 (by decide) ?_
  refine zj_iinc (L' := [(3, .int (zI (x3 + 1))), (0, .ref m), (2, .int (zI x2)), (4, .int (zI x4))]) (x3 + 1) d_Ma_worth_71 2 rfl (by omega) (by decide) rfl ?_
  refine j_goto 216 d_Ma_worth_74 (by decide) ?_
  refine zj_iinc (L' := [(4, .int (zI (x4 + 1))), (3, .int (zI (x3 + 1))), (0, .ref m), (2, .int (zI x2))]) (x4 + 1) d_Ma_worth_216 3 rfl (by omega) (by decide) rfl ?_
  refine j_goto 5 d_Ma_worth_219 (by decide) ?_
  exact j_sel [2, 3, 1, 0] rfl h
set_option maxHeartbeats 2000000 in
theorem b_Ma_worth_131 {ω : q_W} {σ : q_H} {Q : q_R → q_H → Prop} {d mc ms : Nat} {x2 : Int} {x3 : Int} {x4 : Int} {x5 : Int} {x6 : Int} {m : Nat} (hm : m = 43 ∨ m = 87) {p : Nat} (hp : p = 16 ∨ p = 29) {w : Nat} (hw : w = 42 ∨ w = 91) (rm5 : q_r σ m 5 = p) (rm6 : q_r σ m 6 = w) (hE : q_E σ) (h : inR x5 ∧ q_imp (x5 < 19) ((J ω m_Ma_worth (d + 1) mc ms 0 0 173 [(0, .ref m), (2, .int (zI x2)), (3, .int (zI x3)), (4, .int (zI x4)), (5, .int (zI x5)), (6, .int (zI x6))] [] σ Q)) ∧ q_imp (x5 ≥ 19) (inR x3 ∧ q_imp (x3 < 1) ((J ω m_Ma_worth (d + 1) mc ms 0 0 173 [(0, .ref m), (2, .int (zI x2)), (3, .int (zI x3)), (4, .int (zI x4)), (5, .int (zI x5)), (6, .int (zI x6))] [] σ Q)) ∧ q_imp (x3 ≥ 1) ((0 ≤ (x3 - 1) ∧ (x3 - 1) < 400) ∧ (J ω m_Ma_single d 0 0 0 0 0 [(0, .int (zI x5)), (1, .int (zI (z σ (m + 3) (x3 - 1).toNat)))] [] σ (q_ki (fun v τ => J ω m_Ma_worth (d + 1) mc ms 0 0 163 [(0, .ref m), (2, .int (zI x2)), (3, .int (zI x3)), (4, .int (zI x4)), (6, .int (zI x6))] [.int (zI v), .int (zI (x3 - 1)), .ref (m + 3)] τ Q)))))) : J ω m_Ma_worth (d + 1) mc ms 0 0 131 [(0, .ref m), (2, .int (zI x2)), (3, .int (zI x3)), (4, .int (zI x4)), (5, .int (zI x5)), (6, .int (zI x6))] [] σ Q := by
  refine j_iload d_Ma_worth_131 4 rfl ?_
  refine j_bipush (v := zI 19) d_Ma_worth_133 (by decide) ?_
  obtain ⟨r19, h⟩ := h
  obtain ⟨h1, h2⟩ := h
  refine zj_icmp_lt 173 d_Ma_worth_135 (by decide) r19 ⟨by decide, by decide⟩ (fun k20 => ?_) (fun k20 => ?_)
  · have h := h1 k20
    exact j_sel [0, 1, 2, 3, 4, 5] rfl h
  · have h := h2 k20
    refine j_iload_n d_Ma_worth_138 2 rfl ?_
    refine j_iconst (v := zI 1) d_Ma_worth_139 (by decide) ?_
    obtain ⟨r21, h⟩ := h
    obtain ⟨h1, h2⟩ := h
    refine zj_icmp_lt 173 d_Ma_worth_140 (by decide) r21 ⟨by decide, by decide⟩ (fun k22 => ?_) (fun k22 => ?_)
    · have h := h1 k22
      exact j_sel [0, 1, 2, 3, 4, 5] rfl h
    · have h := h2 k22
      refine j_aload_n d_Ma_worth_143 0 rfl ?_
      refine j_getR (m + 3) f_Ma_22 d_Ma_worth_144 (tY_m_0 hE hm) (q_okE hE (by omega)) (rY_m_4 hE hm) (by omega) ?_
      refine j_iload_n d_Ma_worth_147 2 rfl ?_
      refine j_iconst (v := zI 1) d_Ma_worth_148 (by decide) ?_
      refine zj_isub (x3 - 1) (by omega) d_Ma_worth_149 ?_
      refine j_iload d_Ma_worth_150 4 rfl ?_
      refine j_aload_n d_Ma_worth_152 0 rfl ?_
      refine j_getR (m + 3) f_Ma_22 d_Ma_worth_153 (tY_m_0 hE hm) (q_okE hE (by omega)) (rY_m_4 hE hm) (by omega) ?_
      refine j_iload_n d_Ma_worth_156 2 rfl ?_
      refine j_iconst (v := zI 1) d_Ma_worth_157 (by decide) ?_
      refine zj_isub (x3 - 1) (by omega) d_Ma_worth_158 ?_
      obtain ⟨c23, h⟩ := h
      refine zj_iald (z σ (m + 3) (x3 - 1).toNat) d_Ma_worth_159 (tY_m_3 hE hm) (q_okE hE (by omega)) c23 (by decide) (q_z _ _ _) ?_
      refine j_callS m_Ma_single [.int (zI x5), .int (zI (z σ (m + 3) (x3 - 1).toNat))] [.int (zI (x3 - 1)), .ref (m + 3)] d 0 0 cS_Ma_94 d_Ma_worth_160 rfl rfl (Nat.le_of_ble_eq_true rfl) (Nat.le_refl _) (Nat.le_of_ble_eq_true rfl) (Nat.zero_le _) (Nat.zero_le _) h (fun v τ h => ?_) (fun x τ h => ?_)
      · obtain ⟨v, hv, e1, h⟩ := h; cases e1; exact j_sel [0, 1, 2, 3, 5] rfl h
      · obtain ⟨v, hv, e1, h⟩ := h; cases e1
set_option maxHeartbeats 2000000 in
theorem b_Ma_worth_173 {ω : q_W} {σ : q_H} {Q : q_R → q_H → Prop} {d mc ms : Nat} {x2 : Int} {x3 : Int} {x4 : Int} {x5 : Int} {x6 : Int} {m : Nat} (hm : m = 43 ∨ m = 87) {p : Nat} (hp : p = 16 ∨ p = 29) {w : Nat} (hw : w = 42 ∨ w = 91) (rm5 : q_r σ m 5 = p) (rm6 : q_r σ m 6 = w) (hE : q_E σ) (h : inR x3 ∧ q_imp (x3 < 2) ((J ω m_Ma_worth (d + 1) mc ms 0 0 5 [(0, .ref m), (2, .int (zI x2)), (3, .int (zI x3)), (4, .int (zI (x4 + 1)))] [] σ Q)) ∧ q_imp (x3 ≥ 2) ((0 ≤ (x3 - 2) ∧ (x3 - 2) < 400) ∧ (0 ≤ (x3 - 1) ∧ (x3 - 1) < 400) ∧ (J ω m_Ma_both d 0 0 0 0 0 [(0, .int (zI x5)), (1, .int (zI (z σ (m + 3) (x3 - 2).toNat))), (2, .int (zI (z σ (m + 3) (x3 - 1).toNat))), (3, .int (zI x6))] [] σ (q_ki (fun v τ => J ω m_Ma_worth (d + 1) mc ms 0 0 209 [(0, .ref m), (2, .int (zI x2)), (3, .int (zI (x3 - 1))), (4, .int (zI x4)), (6, .int (zI x6))] [.int (zI v), .int (zI (x3 - 2)), .ref (m + 3)] τ Q))))) : J ω m_Ma_worth (d + 1) mc ms 0 0 173 [(0, .ref m), (2, .int (zI x2)), (3, .int (zI x3)), (4, .int (zI x4)), (5, .int (zI x5)), (6, .int (zI x6))] [] σ Q := by
  refine j_iload_n d_Ma_worth_173 2 rfl ?_
  refine j_iconst (v := zI 2) d_Ma_worth_174 (by decide) ?_
  obtain ⟨r24, h⟩ := h
  obtain ⟨h1, h2⟩ := h
  refine zj_icmp_lt 216 d_Ma_worth_175 (by decide) r24 ⟨by decide, by decide⟩ (fun k25 => ?_) (fun k25 => ?_)
  · have h := h1 k25
    refine zj_iinc (L' := [(4, .int (zI (x4 + 1))), (0, .ref m), (2, .int (zI x2)), (3, .int (zI x3)), (5, .int (zI x5)), (6, .int (zI x6))]) (x4 + 1) d_Ma_worth_216 3 rfl (by omega) (by decide) rfl ?_
    refine j_goto 5 d_Ma_worth_219 (by decide) ?_
    exact j_sel [1, 2, 3, 0] rfl h
  · have h := h2 k25
    refine zj_iinc (L' := [(3, .int (zI (x3 - 1))), (0, .ref m), (2, .int (zI x2)), (4, .int (zI x4)), (5, .int (zI x5)), (6, .int (zI x6))]) (x3 - 1) d_Ma_worth_178 2 rfl (by omega) (by decide) rfl ?_
    refine j_aload_n d_Ma_worth_181 1 rfl ?_
    refine j_getR (m + 3) f_Ma_22 d_Ma_worth_182 (tY_m_0 hE hm) (q_okE hE (by omega)) (rY_m_4 hE hm) (by omega) ?_
    refine j_iload_n d_Ma_worth_185 0 rfl ?_
    refine j_iconst (v := zI 1) d_Ma_worth_186 (by decide) ?_
    refine zj_isub (x3 - 2) (by omega) d_Ma_worth_187 ?_
    refine j_iload d_Ma_worth_188 4 rfl ?_
    refine j_aload_n d_Ma_worth_190 1 rfl ?_
    refine j_getR (m + 3) f_Ma_22 d_Ma_worth_191 (tY_m_0 hE hm) (q_okE hE (by omega)) (rY_m_4 hE hm) (by omega) ?_
    refine j_iload_n d_Ma_worth_194 0 rfl ?_
    refine j_iconst (v := zI 1) d_Ma_worth_195 (by decide) ?_
    refine zj_isub (x3 - 2) (by omega) d_Ma_worth_196 ?_
    obtain ⟨c26, h⟩ := h
    refine zj_iald (z σ (m + 3) (x3 - 2).toNat) d_Ma_worth_197 (tY_m_3 hE hm) (q_okE hE (by omega)) c26 (by decide) (q_z _ _ _) ?_
    refine j_aload_n d_Ma_worth_198 1 rfl ?_
    refine j_getR (m + 3) f_Ma_22 d_Ma_worth_199 (tY_m_0 hE hm) (q_okE hE (by omega)) (rY_m_4 hE hm) (by omega) ?_
    refine j_iload_n d_Ma_worth_202 0 rfl ?_
    obtain ⟨c27, h⟩ := h
    refine zj_iald (z σ (m + 3) (x3 - 1).toNat) d_Ma_worth_203 (tY_m_3 hE hm) (q_okE hE (by omega)) c27 (by decide) (q_z _ _ _) ?_
    refine j_iload d_Ma_worth_204 5 rfl ?_
    refine j_callS m_Ma_both [.int (zI x5), .int (zI (z σ (m + 3) (x3 - 2).toNat)), .int (zI (z σ (m + 3) (x3 - 1).toNat)), .int (zI x6)] [.int (zI (x3 - 2)), .ref (m + 3)] d 0 0 cS_Ma_97 d_Ma_worth_206 rfl rfl (Nat.le_of_ble_eq_true rfl) (Nat.le_refl _) (Nat.le_of_ble_eq_true rfl) (Nat.zero_le _) (Nat.zero_le _) h (fun v τ h => ?_) (fun x τ h => ?_)
    · obtain ⟨v, hv, e1, h⟩ := h; cases e1; exact j_sel [1, 2, 0, 3, 5] rfl h
    · obtain ⟨v, hv, e1, h⟩ := h; cases e1
set_option maxHeartbeats 2000000 in
theorem b_Ma_worth_163 {ω : q_W} {σ : q_H} {Q : q_R → q_H → Prop} {d mc ms : Nat} {x2 : Int} {x3 : Int} {x4 : Int} {x6 : Int} {y0 : Int} {y1 : Int} {m : Nat} (hm : m = 43 ∨ m = 87) {p : Nat} (hp : p = 16 ∨ p = 29) {w : Nat} (hw : w = 42 ∨ w = 91) (rm5 : q_r σ m 5 = p) (rm6 : q_r σ m 6 = w) (hE : q_E σ) (h : inR x6 ∧ (0 ≤ y1 ∧ y1 < 400) ∧ (J ω m_Ma_worth (d + 1) mc ms 0 0 5 [(0, .ref m), (2, .int (zI x2)), (3, .int (zI x3)), (4, .int (zI (x4 + 1)))] [] (zs σ (m + 3) y1.toNat (zAnd y0 (zShl 1 x6 - 1))) Q)) : J ω m_Ma_worth (d + 1) mc ms 0 0 163 [(0, .ref m), (2, .int (zI x2)), (3, .int (zI x3)), (4, .int (zI x4)), (6, .int (zI x6))] [.int (zI y0), .int (zI y1), .ref (m + 3)] σ Q := by
  refine j_iload d_Ma_worth_163 4 rfl ?_
  obtain ⟨r28, h⟩ := h
  refine j_callS m_H_mask [.int (zI x6)] [.int (zI y0), .int (zI y1), .ref (m + 3)] 0 0 0 cS_Ma_72 d_Ma_worth_165 rfl rfl (Nat.le_of_ble_eq_true rfl) (Nat.succ_le_succ (Nat.zero_le _)) (Nat.le_of_ble_eq_true rfl) (Nat.zero_le _) (Nat.zero_le _) (c_H_mask hE r28) (fun v τ h => ?_) (fun x τ h => absurd h.1 (by simp))
  obtain ⟨e1, e2⟩ := h; cases e1; rw [e2]
  refine zj_iand d_Ma_worth_168 ?_
  obtain ⟨c29, h⟩ := h
  refine zj_iast d_Ma_worth_169 (tY_m_3 hE hm) (q_okE hE (by omega)) c29 (by decide) ?_
  refine j_goto 216 d_Ma_worth_170 (by decide) ?_
  refine zj_iinc (L' := [(4, .int (zI (x4 + 1))), (0, .ref m), (2, .int (zI x2)), (3, .int (zI x3)), (6, .int (zI x6))]) (x4 + 1) d_Ma_worth_216 3 rfl (by omega) (by decide) rfl ?_
  refine j_goto 5 d_Ma_worth_219 (by decide) ?_
  exact j_sel [1, 2, 3, 0] rfl h
set_option maxHeartbeats 2000000 in
theorem b_Ma_worth_209 {ω : q_W} {σ : q_H} {Q : q_R → q_H → Prop} {d mc ms : Nat} {x2 : Int} {x3 : Int} {x4 : Int} {x6 : Int} {y0 : Int} {y1 : Int} {m : Nat} (hm : m = 43 ∨ m = 87) {p : Nat} (hp : p = 16 ∨ p = 29) {w : Nat} (hw : w = 42 ∨ w = 91) (rm5 : q_r σ m 5 = p) (rm6 : q_r σ m 6 = w) (hE : q_E σ) (h : inR x6 ∧ (0 ≤ y1 ∧ y1 < 400) ∧ (J ω m_Ma_worth (d + 1) mc ms 0 0 5 [(0, .ref m), (2, .int (zI x2)), (3, .int (zI x3)), (4, .int (zI (x4 + 1)))] [] (zs σ (m + 3) y1.toNat (zAnd y0 (zShl 1 x6 - 1))) Q)) : J ω m_Ma_worth (d + 1) mc ms 0 0 209 [(0, .ref m), (2, .int (zI x2)), (3, .int (zI x3)), (4, .int (zI x4)), (6, .int (zI x6))] [.int (zI y0), .int (zI y1), .ref (m + 3)] σ Q := by
  refine j_iload d_Ma_worth_209 4 rfl ?_
  obtain ⟨r30, h⟩ := h
  refine j_callS m_H_mask [.int (zI x6)] [.int (zI y0), .int (zI y1), .ref (m + 3)] 0 0 0 cS_Ma_72 d_Ma_worth_211 rfl rfl (Nat.le_of_ble_eq_true rfl) (Nat.succ_le_succ (Nat.zero_le _)) (Nat.le_of_ble_eq_true rfl) (Nat.zero_le _) (Nat.zero_le _) (c_H_mask hE r30) (fun v τ h => ?_) (fun x τ h => absurd h.1 (by simp))
  obtain ⟨e1, e2⟩ := h; cases e1; rw [e2]
  refine zj_iand d_Ma_worth_214 ?_
  obtain ⟨c31, h⟩ := h
  refine zj_iast d_Ma_worth_215 (tY_m_3 hE hm) (q_okE hE (by omega)) c31 (by decide) ?_
  refine zj_iinc (L' := [(4, .int (zI (x4 + 1))), (0, .ref m), (2, .int (zI x2)), (3, .int (zI x3)), (6, .int (zI x6))]) (x4 + 1) d_Ma_worth_216 3 rfl (by omega) (by decide) rfl ?_
  refine j_goto 5 d_Ma_worth_219 (by decide) ?_
  exact j_sel [1, 2, 3, 0] rfl h
