/-! stretches of bytecode as conditions: Ma_perform -/
theorem d_Ma_perform_0 : decode m_Ma_perform.2.1 0 = .ok (.aload_n 0, 1) := by decide +kernel
theorem d_Ma_perform_1 : decode m_Ma_perform.2.1 1 = .ok (.getfield 37, 3) := by decide +kernel
theorem d_Ma_perform_4 : decode m_Ma_perform.2.1 4 = .ok (.getfield 63, 3) := by decide +kernel
theorem d_Ma_perform_7 : decode m_Ma_perform.2.1 7 = .ok (.iload_n 1, 1) := by decide +kernel
theorem d_Ma_perform_8 : decode m_Ma_perform.2.1 8 = .ok (.iaload, 1) := by decide +kernel
theorem d_Ma_perform_9 : decode m_Ma_perform.2.1 9 = .ok (.istore_n 3, 1) := by decide +kernel
theorem d_Ma_perform_10 : decode m_Ma_perform.2.1 10 = .ok (.aload_n 0, 1) := by decide +kernel
theorem d_Ma_perform_11 : decode m_Ma_perform.2.1 11 = .ok (.getfield 37, 3) := by decide +kernel
theorem d_Ma_perform_14 : decode m_Ma_perform.2.1 14 = .ok (.getfield 66, 3) := by decide +kernel
theorem d_Ma_perform_17 : decode m_Ma_perform.2.1 17 = .ok (.iload_n 1, 1) := by decide +kernel
theorem d_Ma_perform_18 : decode m_Ma_perform.2.1 18 = .ok (.iaload, 1) := by decide +kernel
theorem d_Ma_perform_19 : decode m_Ma_perform.2.1 19 = .ok (.tableswitch 172 1 9 #[49, 72, 89, 101, 121, 172, 131, 149, 121], 49) := by decide +kernel
theorem d_Ma_perform_68 : decode m_Ma_perform.2.1 68 = .ok (.aload_n 0, 1) := by decide +kernel
theorem d_Ma_perform_69 : decode m_Ma_perform.2.1 69 = .ok (.getfield 15, 3) := by decide +kernel
theorem d_Ma_perform_72 : decode m_Ma_perform.2.1 72 = .ok (.iload_n 3, 1) := by decide +kernel
theorem d_Ma_perform_73 : decode m_Ma_perform.2.1 73 = .ok (.iload_n 2, 1) := by decide +kernel
theorem d_Ma_perform_74 : decode m_Ma_perform.2.1 74 = .ok (.aload_n 0, 1) := by decide +kernel
theorem d_Ma_perform_75 : decode m_Ma_perform.2.1 75 = .ok (.getfield 37, 3) := by decide +kernel
theorem d_Ma_perform_78 : decode m_Ma_perform.2.1 78 = .ok (.getfield 69, 3) := by decide +kernel
theorem d_Ma_perform_81 : decode m_Ma_perform.2.1 81 = .ok (.iload_n 3, 1) := by decide +kernel
theorem d_Ma_perform_82 : decode m_Ma_perform.2.1 82 = .ok (.iaload, 1) := by decide +kernel
theorem d_Ma_perform_83 : decode m_Ma_perform.2.1 83 = .ok (.invokestatic 72, 3) := by decide +kernel
theorem d_Ma_perform_86 : decode m_Ma_perform.2.1 86 = .ok (.iand, 1) := by decide +kernel
theorem d_Ma_perform_87 : decode m_Ma_perform.2.1 87 = .ok (.iastore, 1) := by decide +kernel
theorem d_Ma_perform_88 : decode m_Ma_perform.2.1 88 = .ok (.goto 103, 3) := by decide +kernel
theorem d_Ma_perform_91 : decode m_Ma_perform.2.1 91 = .ok (.iload_n 2, 1) := by decide +kernel
theorem d_Ma_perform_92 : decode m_Ma_perform.2.1 92 = .ok (.ifCond .ne 99, 3) := by decide +kernel
theorem d_Ma_perform_95 : decode m_Ma_perform.2.1 95 = .ok (.aload_n 0, 1) := by decide +kernel
theorem d_Ma_perform_96 : decode m_Ma_perform.2.1 96 = .ok (.iconst 1, 1) := by decide +kernel
theorem d_Ma_perform_97 : decode m_Ma_perform.2.1 97 = .ok (.putfield 31, 3) := by decide +kernel
theorem d_Ma_perform_100 : decode m_Ma_perform.2.1 100 = .ok (.aload_n 0, 1) := by decide +kernel
theorem d_Ma_perform_101 : decode m_Ma_perform.2.1 101 = .ok (.iload_n 3, 1) := by decide +kernel
theorem d_Ma_perform_102 : decode m_Ma_perform.2.1 102 = .ok (.putfield 9, 3) := by decide +kernel
theorem d_Ma_perform_105 : decode m_Ma_perform.2.1 105 = .ok (.goto 86, 3) := by decide +kernel
theorem d_Ma_perform_108 : decode m_Ma_perform.2.1 108 = .ok (.iload_n 2, 1) := by decide +kernel
theorem d_Ma_perform_109 : decode m_Ma_perform.2.1 109 = .ok (.ifCond .ne 82, 3) := by decide +kernel
theorem d_Ma_perform_112 : decode m_Ma_perform.2.1 112 = .ok (.aload_n 0, 1) := by decide +kernel
theorem d_Ma_perform_113 : decode m_Ma_perform.2.1 113 = .ok (.iconst 2, 1) := by decide +kernel
theorem d_Ma_perform_114 : decode m_Ma_perform.2.1 114 = .ok (.putfield 31, 3) := by decide +kernel
theorem d_Ma_perform_117 : decode m_Ma_perform.2.1 117 = .ok (.goto 74, 3) := by decide +kernel
theorem d_Ma_perform_120 : decode m_Ma_perform.2.1 120 = .ok (.iload_n 2, 1) := by decide +kernel
theorem d_Ma_perform_121 : decode m_Ma_perform.2.1 121 = .ok (.ifCond .ne 15, 3) := by decide +kernel
theorem d_Ma_perform_124 : decode m_Ma_perform.2.1 124 = .ok (.aload_n 0, 1) := by decide +kernel
theorem d_Ma_perform_125 : decode m_Ma_perform.2.1 125 = .ok (.getfield 37, 3) := by decide +kernel
theorem d_Ma_perform_128 : decode m_Ma_perform.2.1 128 = .ok (.getfield 76, 3) := by decide +kernel
theorem d_Ma_perform_131 : decode m_Ma_perform.2.1 131 = .ok (.iload_n 1, 1) := by decide +kernel
theorem d_Ma_perform_132 : decode m_Ma_perform.2.1 132 = .ok (.iaload, 1) := by decide +kernel
theorem d_Ma_perform_133 : decode m_Ma_perform.2.1 133 = .ok (.goto 6, 3) := by decide +kernel
theorem d_Ma_perform_136 : decode m_Ma_perform.2.1 136 = .ok (.iload_n 1, 1) := by decide +kernel
theorem d_Ma_perform_137 : decode m_Ma_perform.2.1 137 = .ok (.iconst 1, 1) := by decide +kernel
theorem d_Ma_perform_138 : decode m_Ma_perform.2.1 138 = .ok (.iadd, 1) := by decide +kernel
theorem d_Ma_perform_139 : decode m_Ma_perform.2.1 139 = .ok (.ireturn, 1) := by decide +kernel
theorem d_Ma_perform_140 : decode m_Ma_perform.2.1 140 = .ok (.aload_n 0, 1) := by decide +kernel
theorem d_Ma_perform_141 : decode m_Ma_perform.2.1 141 = .ok (.getfield 37, 3) := by decide +kernel
theorem d_Ma_perform_144 : decode m_Ma_perform.2.1 144 = .ok (.getfield 76, 3) := by decide +kernel
theorem d_Ma_perform_147 : decode m_Ma_perform.2.1 147 = .ok (.iload_n 1, 1) := by decide +kernel
theorem d_Ma_perform_148 : decode m_Ma_perform.2.1 148 = .ok (.iaload, 1) := by decide +kernel
theorem d_Ma_perform_149 : decode m_Ma_perform.2.1 149 = .ok (.ireturn, 1) := by decide +kernel
theorem d_Ma_perform_150 : decode m_Ma_perform.2.1 150 = .ok (.aload_n 0, 1) := by decide +kernel
theorem d_Ma_perform_151 : decode m_Ma_perform.2.1 151 = .ok (.getfield 19, 3) := by decide +kernel
theorem d_Ma_perform_154 : decode m_Ma_perform.2.1 154 = .ok (.aload_n 0, 1) := by decide +kernel
theorem d_Ma_perform_155 : decode m_Ma_perform.2.1 155 = .ok (.getfield 37, 3) := by decide +kernel
theorem d_Ma_perform_158 : decode m_Ma_perform.2.1 158 = .ok (.getfield 76, 3) := by decide +kernel
theorem d_Ma_perform_161 : decode m_Ma_perform.2.1 161 = .ok (.iload_n 1, 1) := by decide +kernel
theorem d_Ma_perform_162 : decode m_Ma_perform.2.1 162 = .ok (.iaload, 1) := by decide +kernel
theorem d_Ma_perform_163 : decode m_Ma_perform.2.1 163 = .ok (.iload_n 3, 1) := by decide +kernel
theorem d_Ma_perform_164 : decode m_Ma_perform.2.1 164 = .ok (.iastore, 1) := by decide +kernel
theorem d_Ma_perform_165 : decode m_Ma_perform.2.1 165 = .ok (.goto 26, 3) := by decide +kernel
theorem d_Ma_perform_168 : decode m_Ma_perform.2.1 168 = .ok (.iload_n 2, 1) := by decide +kernel
theorem d_Ma_perform_169 : decode m_Ma_perform.2.1 169 = .ok (.ifCond .ne 15, 3) := by decide +kernel
theorem d_Ma_perform_172 : decode m_Ma_perform.2.1 172 = .ok (.aload_n 0, 1) := by decide +kernel
theorem d_Ma_perform_173 : decode m_Ma_perform.2.1 173 = .ok (.getfield 37, 3) := by decide +kernel
theorem d_Ma_perform_176 : decode m_Ma_perform.2.1 176 = .ok (.getfield 76, 3) := by decide +kernel
theorem d_Ma_perform_179 : decode m_Ma_perform.2.1 179 = .ok (.iload_n 1, 1) := by decide +kernel
theorem d_Ma_perform_180 : decode m_Ma_perform.2.1 180 = .ok (.iaload, 1) := by decide +kernel
theorem d_Ma_perform_181 : decode m_Ma_perform.2.1 181 = .ok (.goto 9, 3) := by decide +kernel
theorem d_Ma_perform_184 : decode m_Ma_perform.2.1 184 = .ok (.aload_n 0, 1) := by decide +kernel
theorem d_Ma_perform_185 : decode m_Ma_perform.2.1 185 = .ok (.iload_n 1, 1) := by decide +kernel
theorem d_Ma_perform_186 : decode m_Ma_perform.2.1 186 = .ok (.iload_n 3, 1) := by decide +kernel
theorem d_Ma_perform_187 : decode m_Ma_perform.2.1 187 = .ok (.invokevirtual 79, 3) := by decide +kernel
theorem d_Ma_perform_190 : decode m_Ma_perform.2.1 190 = .ok (.ireturn, 1) := by decide +kernel
theorem d_Ma_perform_191 : decode m_Ma_perform.2.1 191 = .ok (.iload_n 1, 1) := by decide +kernel
theorem d_Ma_perform_192 : decode m_Ma_perform.2.1 192 = .ok (.iconst 1, 1) := by decide +kernel
theorem d_Ma_perform_193 : decode m_Ma_perform.2.1 193 = .ok (.iadd, 1) := by decide +kernel
theorem d_Ma_perform_194 : decode m_Ma_perform.2.1 194 = .ok (.ireturn, 1) := by decide +kernel
theorem f_Ma_37 : q_FR "ProofHall$Machine" 37 4 5 := ⟨"LProofHall$Program;", by decide, ⟨_, _, _, rfl, by decide, rfl, Or.inl (List.mem_of_getElem? (i := 322) (by decide +kernel))⟩⟩
theorem f_Ma_63 : q_FR "ProofHall$Machine" 63 2 13 := ⟨"[I", by decide, ⟨_, _, _, rfl, by decide, rfl, Or.inl (List.mem_of_getElem? (i := 238) (by decide +kernel))⟩⟩
theorem f_Ma_66 : q_FR "ProofHall$Machine" 66 2 12 := ⟨"[I", by decide, ⟨_, _, _, rfl, by decide, rfl, Or.inl (List.mem_of_getElem? (i := 234) (by decide +kernel))⟩⟩
theorem f_Ma_69 : q_FR "ProofHall$Machine" 69 2 5 := ⟨"[I", by decide, ⟨_, _, _, rfl, by decide, rfl, Or.inl (List.mem_of_getElem? (i := 211) (by decide +kernel))⟩⟩
theorem cd_H_mask : q_cd m_H_mask := ⟨by decide +kernel, List.mem_of_getElem? (i := 1) (by decide +kernel), Or.inl ⟨rfl, List.mem_of_getElem? (i := 1360) (by decide +kernel)⟩⟩
theorem cS_Ma_72 : q_CS "ProofHall$Machine" 72 m_H_mask 1 := ⟨⟨cd_H_mask, by decide, by decide, by decide, by decide +kernel⟩, Or.inr ⟨"ProofHall", List.mem_of_getElem? (i := 1358) (by decide +kernel)⟩, List.mem_of_getElem? (i := 1359) (by decide +kernel)⟩
theorem f_Ma_76 : q_FR "ProofHall$Machine" 76 2 16 := ⟨"[I", by decide, ⟨_, _, _, rfl, by decide, rfl, Or.inl (List.mem_of_getElem? (i := 246) (by decide +kernel))⟩⟩
theorem f_Ma_19 : q_FR "ProofHall$Machine" 19 4 3 := ⟨"[I", by decide, ⟨_, _, _, rfl, by decide, rfl, Or.inl (List.mem_of_getElem? (i := 320) (by decide +kernel))⟩⟩
theorem cd_Ma_enter : q_cd m_Ma_enter := ⟨by decide +kernel, List.mem_of_getElem? (i := 9) (by decide +kernel), Or.inl ⟨rfl, List.mem_of_getElem? (i := 1374) (by decide +kernel)⟩⟩
theorem cV_Ma_79 : q_CV "ProofHall$Machine" 79 4 m_Ma_enter 2 := ⟨⟨cd_Ma_enter, by decide, by decide, by decide, by decide +kernel⟩, Or.inl (List.mem_of_getElem? (i := 1371) (by decide +kernel)), List.mem_of_getElem? (i := 1373) (by decide +kernel), _, _, _, rfl, by decide +kernel⟩
theorem o_Ma_perform_19 {x : Int} (cs1 : ¬ x = 1) (cs2 : ¬ x = 2) (cs3 : ¬ x = 3) (cs4 : ¬ x = 4) (cs5 : ¬ x = 5) (cs6 : ¬ x = 6) (cs7 : ¬ x = 7) (cs8 : ¬ x = 8) (cs9 : ¬ x = 9) : x < 1 ∨ 9 < x := by omega
set_option maxHeartbeats 2000000 in
theorem b_Ma_perform_0 {ω : q_W} {σ : q_H} {Q : q_R → q_H → Prop} {d mc ms : Nat} {x1 : Int} {x2 : Int} {m : Nat} (hm : m = 43 ∨ m = 87) {p : Nat} (hp : p = 16 ∨ p = 29) {w : Nat} (hw : w = 42 ∨ w = 91) (rm5 : q_r σ m 5 = p) (rm6 : q_r σ m 6 = w) (hE : q_E σ) (h : (0 ≤ x1 ∧ x1 < 2048) ∧ q_imp ((z σ (p + 5) x1.toNat) = 1) ((0 ≤ (z σ (p + 6) x1.toNat) ∧ (z σ (p + 6) x1.toNat) < 12) ∧ (Q (.inl (some (.int (zI (x1 + 1))))) (zs σ (m + 1) (z σ (p + 6) x1.toNat).toNat (zAnd x2 (zShl 1 (z σ (p + 3) (z σ (p + 6) x1.toNat).toNat) - 1))))) ∧ q_imp ((z σ (p + 5) x1.toNat) = 2) (inR x2 ∧ q_imp (x2 ≠ 0) ((Q (.inl (some (.int (zI (x1 + 1))))) σ)) ∧ q_imp (x2 = 0) ((Q (.inl (some (.int (zI (x1 + 1))))) (zs (zs σ m 0 1) m 1 (z σ (p + 6) x1.toNat))))) ∧ q_imp ((z σ (p + 5) x1.toNat) = 3) (inR x2 ∧ q_imp (x2 ≠ 0) ((Q (.inl (some (.int (zI (x1 + 1))))) σ)) ∧ q_imp (x2 = 0) ((Q (.inl (some (.int (zI (x1 + 1))))) (zs σ m 0 2)))) ∧ q_imp ((z σ (p + 5) x1.toNat) = 4) (inR x2 ∧ q_imp (x2 ≠ 0) ((Q (.inl (some (.int (zI (x1 + 1))))) σ)) ∧ q_imp (x2 = 0) ((Q (.inl (some (.int (zI (z σ (p + 9) x1.toNat))))) σ))) ∧ q_imp ((z σ (p + 5) x1.toNat) = 5 ∨ (z σ (p + 5) x1.toNat) = 9) ((Q (.inl (some (.int (zI (z σ (p + 9) x1.toNat))))) σ)) ∧ q_imp ((z σ (p + 5) x1.toNat) = 7) ((0 ≤ (z σ (p + 9) x1.toNat) ∧ (z σ (p + 9) x1.toNat) < 32) ∧ (Q (.inl (some (.int (zI (x1 + 1))))) (zs σ (m + 2) (z σ (p + 9) x1.toNat).toNat (z σ (p + 6) x1.toNat)))) ∧ q_imp ((z σ (p + 5) x1.toNat) = 8) (inR x2 ∧ q_imp (x2 ≠ 0) ((J ω m_Ma_enter d 0 0 0 0 0 [(0, .ref m), (1, .int (zI x1)), (2, .int (zI (z σ (p + 6) x1.toNat)))] [] σ (q_ki (fun v τ => J ω m_Ma_perform (d + 1) mc ms 0 0 190 [] [.int (zI v)] τ Q)))) ∧ q_imp (x2 = 0) ((Q (.inl (some (.int (zI (z σ (p + 9) x1.toNat))))) σ))) ∧ q_imp ((z σ (p + 5) x1.toNat) ≠ 1 ∧ (z σ (p + 5) x1.toNat) ≠ 2 ∧ (z σ (p + 5) x1.toNat) ≠ 3 ∧ (z σ (p + 5) x1.toNat) ≠ 4 ∧ (z σ (p + 5) x1.toNat) ≠ 5 ∧ (z σ (p + 5) x1.toNat) ≠ 7 ∧ (z σ (p + 5) x1.toNat) ≠ 8 ∧ (z σ (p + 5) x1.toNat) ≠ 9) ((Q (.inl (some (.int (zI (x1 + 1))))) σ))) : J ω m_Ma_perform (d + 1) mc ms 0 0 0 [(0, .ref m), (1, .int (zI x1)), (2, .int (zI x2))] [] σ Q := by
  refine j_aload_n d_Ma_perform_0 0 rfl ?_
  refine j_getR p f_Ma_37 d_Ma_perform_1 (tY_m_0 hE hm) (q_okE hE (by omega)) (rm5) (by omega) ?_
  refine j_getR (p + 6) f_Ma_63 d_Ma_perform_4 (tY_p_0 hE hp) (q_okE hE (by omega)) (rY_p_13 hE hp) (by omega) ?_
  refine j_iload_n d_Ma_perform_7 1 rfl ?_
  obtain ⟨c1, h⟩ := h
  refine zj_iald (z σ (p + 6) x1.toNat) d_Ma_perform_8 (tY_p_6 hE hp) (q_okE hE (by omega)) c1 (by decide) (q_z _ _ _) ?_
  refine j_istore_n (L' := [(3, .int (zI (z σ (p + 6) x1.toNat))), (0, .ref m), (1, .int (zI x1)), (2, .int (zI x2))]) d_Ma_perform_9 (by decide) rfl ?_
  refine j_aload_n d_Ma_perform_10 1 rfl ?_
  refine j_getR p f_Ma_37 d_Ma_perform_11 (tY_m_0 hE hm) (q_okE hE (by omega)) (rm5) (by omega) ?_
  refine j_getR (p + 5) f_Ma_66 d_Ma_perform_14 (tY_p_0 hE hp) (q_okE hE (by omega)) (rY_p_12 hE hp) (by omega) ?_
  refine j_iload_n d_Ma_perform_17 2 rfl ?_
  refine zj_iald (z σ (p + 5) x1.toNat) d_Ma_perform_18 (tY_p_5 hE hp) (q_okE hE (by omega)) c1 (by decide) (q_z _ _ _) ?_
  obtain ⟨g68, g91, g108, g120, g140, g150, g168, gD⟩ := h
  have jg68 : q_imp ((z σ (p + 5) x1.toNat) = 1) (J ω m_Ma_perform (d + 1) mc ms 0 0 68 [(3, .int (zI (z σ (p + 6) x1.toNat))), (0, .ref m), (1, .int (zI x1)), (2, .int (zI x2))] [] σ Q) := by
    intro c
    have h := g68 c
    refine j_aload_n d_Ma_perform_68 1 rfl ?_
    refine j_getR (m + 1) f_Ma_15 d_Ma_perform_69 (tY_m_0 hE hm) (q_okE hE (by omega)) (rY_m_2 hE hm) (by omega) ?_
    refine j_iload_n d_Ma_perform_72 0 rfl ?_
    refine j_iload_n d_Ma_perform_73 3 rfl ?_
    refine j_aload_n d_Ma_perform_74 1 rfl ?_
    refine j_getR p f_Ma_37 d_Ma_perform_75 (tY_m_0 hE hm) (q_okE hE (by omega)) (rm5) (by omega) ?_
    refine j_getR (p + 3) f_Ma_69 d_Ma_perform_78 (tY_p_0 hE hp) (q_okE hE (by omega)) (rY_p_5 hE hp) (by omega) ?_
    refine j_iload_n d_Ma_perform_81 0 rfl ?_
    obtain ⟨c2, h⟩ := h
    refine zj_iald (z σ (p + 3) (z σ (p + 6) x1.toNat).toNat) d_Ma_perform_82 (tY_p_3 hE hp) (q_okE hE (by omega)) c2 (by decide) (q_z _ _ _) ?_
    refine j_callS m_H_mask [.int (zI (z σ (p + 3) (z σ (p + 6) x1.toNat).toNat))] [.int (zI x2), .int (zI (z σ (p + 6) x1.toNat)), .ref (m + 1)] 0 0 0 cS_Ma_72 d_Ma_perform_83 rfl rfl (Nat.le_of_ble_eq_true rfl) (Nat.succ_le_succ (Nat.zero_le _)) (Nat.le_of_ble_eq_true rfl) (Nat.zero_le _) (Nat.zero_le _) (c_H_mask hE (z_R _ _ _)) (fun v τ h => ?_) (fun x τ h => absurd h.1 (by simp))
    obtain ⟨e1, e2⟩ := h; cases e1; rw [e2]
    refine zj_iand d_Ma_perform_86 ?_
    refine zj_iast d_Ma_perform_87 (tY_m_1 hE hm) (q_okE hE (by omega)) c2 (by decide) ?_
    refine j_goto 191 d_Ma_perform_88 (by decide) ?_
    refine j_iload_n d_Ma_perform_191 2 rfl ?_
    refine j_iconst (v := zI 1) d_Ma_perform_192 (by decide) ?_
    refine zj_iadd (x1 + 1) (by omega) d_Ma_perform_193 ?_
    exact zj_iret d_Ma_perform_194 rfl (Nat.zero_le _) (Nat.zero_le _) h
  have jg91 : q_imp ((z σ (p + 5) x1.toNat) = 2) (J ω m_Ma_perform (d + 1) mc ms 0 0 91 [(3, .int (zI (z σ (p + 6) x1.toNat))), (0, .ref m), (1, .int (zI x1)), (2, .int (zI x2))] [] σ Q) := by
    intro c
    have h := g91 c
    refine j_iload_n d_Ma_perform_91 3 rfl ?_
    obtain ⟨r3, h⟩ := h
    obtain ⟨h1, h2⟩ := h
    refine zj_if_ne 191 d_Ma_perform_92 (by decide) r3 (fun k4 => ?_) (fun k4 => ?_)
    · have h := h1 k4
      refine j_iload_n d_Ma_perform_191 2 rfl ?_
      refine j_iconst (v := zI 1) d_Ma_perform_192 (by decide) ?_
      refine zj_iadd (x1 + 1) (by omega) d_Ma_perform_193 ?_
      exact zj_iret d_Ma_perform_194 rfl (Nat.zero_le _) (Nat.zero_le _) h
    · have h := h2 k4
      refine j_aload_n d_Ma_perform_95 1 rfl ?_
      refine j_iconst (v := zI 1) d_Ma_perform_96 (by decide) ?_
      refine zj_putI (g_Ma_31 _) d_Ma_perform_97 (tY_m_0 hE hm) (q_okE hE (by omega)) ?_
      refine j_aload_n d_Ma_perform_100 1 rfl ?_
      refine j_iload_n d_Ma_perform_101 0 rfl ?_
      refine zj_putI (g_Ma_9 _) d_Ma_perform_102 (tY_m_0 (zs_E hE) hm) (q_okE (zs_E hE) (by omega)) ?_
      refine j_goto 191 d_Ma_perform_105 (by decide) ?_
      refine j_iload_n d_Ma_perform_191 2 rfl ?_
      refine j_iconst (v := zI 1) d_Ma_perform_192 (by decide) ?_
      refine zj_iadd (x1 + 1) (by omega) d_Ma_perform_193 ?_
      exact zj_iret d_Ma_perform_194 rfl (Nat.zero_le _) (Nat.zero_le _) h
  have jg108 : q_imp ((z σ (p + 5) x1.toNat) = 3) (J ω m_Ma_perform (d + 1) mc ms 0 0 108 [(3, .int (zI (z σ (p + 6) x1.toNat))), (0, .ref m), (1, .int (zI x1)), (2, .int (zI x2))] [] σ Q) := by
    intro c
    have h := g108 c
    refine j_iload_n d_Ma_perform_108 3 rfl ?_
    obtain ⟨r5, h⟩ := h
    obtain ⟨h1, h2⟩ := h
    refine zj_if_ne 191 d_Ma_perform_109 (by decide) r5 (fun k6 => ?_) (fun k6 => ?_)
    · have h := h1 k6
      refine j_iload_n d_Ma_perform_191 2 rfl ?_
      refine j_iconst (v := zI 1) d_Ma_perform_192 (by decide) ?_
      refine zj_iadd (x1 + 1) (by omega) d_Ma_perform_193 ?_
      exact zj_iret d_Ma_perform_194 rfl (Nat.zero_le _) (Nat.zero_le _) h
    · have h := h2 k6
      refine j_aload_n d_Ma_perform_112 1 rfl ?_
      refine j_iconst (v := zI 2) d_Ma_perform_113 (by decide) ?_
      refine zj_putI (g_Ma_31 _) d_Ma_perform_114 (tY_m_0 hE hm) (q_okE hE (by omega)) ?_
      refine j_goto 191 d_Ma_perform_117 (by decide) ?_
      refine j_iload_n d_Ma_perform_191 2 rfl ?_
      refine j_iconst (v := zI 1) d_Ma_perform_192 (by decide) ?_
      refine zj_iadd (x1 + 1) (by omega) d_Ma_perform_193 ?_
      exact zj_iret d_Ma_perform_194 rfl (Nat.zero_le _) (Nat.zero_le _) h
  have jg120 : q_imp ((z σ (p + 5) x1.toNat) = 4) (J ω m_Ma_perform (d + 1) mc ms 0 0 120 [(3, .int (zI (z σ (p + 6) x1.toNat))), (0, .ref m), (1, .int (zI x1)), (2, .int (zI x2))] [] σ Q) := by
    intro c
    have h := g120 c
    refine j_iload_n d_Ma_perform_120 3 rfl ?_
    obtain ⟨r7, h⟩ := h
    obtain ⟨h1, h2⟩ := h
    refine zj_if_ne 136 d_Ma_perform_121 (by decide) r7 (fun k8 => ?_) (fun k8 => ?_)
    · have h := h1 k8
      refine j_iload_n d_Ma_perform_136 2 rfl ?_
      refine j_iconst (v := zI 1) d_Ma_perform_137 (by decide) ?_
      refine zj_iadd (x1 + 1) (by omega) d_Ma_perform_138 ?_
      exact zj_iret d_Ma_perform_139 rfl (Nat.zero_le _) (Nat.zero_le _) h
    · have h := h2 k8
      refine j_aload_n d_Ma_perform_124 1 rfl ?_
      refine j_getR p f_Ma_37 d_Ma_perform_125 (tY_m_0 hE hm) (q_okE hE (by omega)) (rm5) (by omega) ?_
      refine j_getR (p + 9) f_Ma_76 d_Ma_perform_128 (tY_p_0 hE hp) (q_okE hE (by omega)) (rY_p_16 hE hp) (by omega) ?_
      refine j_iload_n d_Ma_perform_131 2 rfl ?_
      refine zj_iald (z σ (p + 9) x1.toNat) d_Ma_perform_132 (tY_p_9 hE hp) (q_okE hE (by omega)) c1 (by decide) (q_z _ _ _) ?_
      refine j_goto 139 d_Ma_perform_133 (by decide) ?_
      exact zj_iret d_Ma_perform_139 rfl (Nat.zero_le _) (Nat.zero_le _) h
  have jg140 : q_imp ((z σ (p + 5) x1.toNat) = 5 ∨ (z σ (p + 5) x1.toNat) = 9) (J ω m_Ma_perform (d + 1) mc ms 0 0 140 [(3, .int (zI (z σ (p + 6) x1.toNat))), (0, .ref m), (1, .int (zI x1)), (2, .int (zI x2))] [] σ Q) := by
    intro c
    have h := g140 c
    refine j_aload_n d_Ma_perform_140 1 rfl ?_
    refine j_getR p f_Ma_37 d_Ma_perform_141 (tY_m_0 hE hm) (q_okE hE (by omega)) (rm5) (by omega) ?_
    refine j_getR (p + 9) f_Ma_76 d_Ma_perform_144 (tY_p_0 hE hp) (q_okE hE (by omega)) (rY_p_16 hE hp) (by omega) ?_
    refine j_iload_n d_Ma_perform_147 2 rfl ?_
    refine zj_iald (z σ (p + 9) x1.toNat) d_Ma_perform_148 (tY_p_9 hE hp) (q_okE hE (by omega)) c1 (by decide) (q_z _ _ _) ?_
    exact zj_iret d_Ma_perform_149 rfl (Nat.zero_le _) (Nat.zero_le _) h
  have jg150 : q_imp ((z σ (p + 5) x1.toNat) = 7) (J ω m_Ma_perform (d + 1) mc ms 0 0 150 [(3, .int (zI (z σ (p + 6) x1.toNat))), (0, .ref m), (1, .int (zI x1)), (2, .int (zI x2))] [] σ Q) := by
    intro c
    have h := g150 c
    refine j_aload_n d_Ma_perform_150 1 rfl ?_
    refine j_getR (m + 2) f_Ma_19 d_Ma_perform_151 (tY_m_0 hE hm) (q_okE hE (by omega)) (rY_m_3 hE hm) (by omega) ?_
    refine j_aload_n d_Ma_perform_154 1 rfl ?_
    refine j_getR p f_Ma_37 d_Ma_perform_155 (tY_m_0 hE hm) (q_okE hE (by omega)) (rm5) (by omega) ?_
    refine j_getR (p + 9) f_Ma_76 d_Ma_perform_158 (tY_p_0 hE hp) (q_okE hE (by omega)) (rY_p_16 hE hp) (by omega) ?_
    refine j_iload_n d_Ma_perform_161 2 rfl ?_
    refine zj_iald (z σ (p + 9) x1.toNat) d_Ma_perform_162 (tY_p_9 hE hp) (q_okE hE (by omega)) c1 (by decide) (q_z _ _ _) ?_
    refine j_iload_n d_Ma_perform_163 0 rfl ?_
    obtain ⟨c9, h⟩ := h
    refine zj_iast d_Ma_perform_164 (tY_m_2 hE hm) (q_okE hE (by omega)) c9 (by decide) ?_
    refine j_goto 191 d_Ma_perform_165 (by decide) ?_
    refine j_iload_n d_Ma_perform_191 2 rfl ?_
    refine j_iconst (v := zI 1) d_Ma_perform_192 (by decide) ?_
    refine zj_iadd (x1 + 1) (by omega) d_Ma_perform_193 ?_
    exact zj_iret d_Ma_perform_194 rfl (Nat.zero_le _) (Nat.zero_le _) h
  have jg168 : q_imp ((z σ (p + 5) x1.toNat) = 8) (J ω m_Ma_perform (d + 1) mc ms 0 0 168 [(3, .int (zI (z σ (p + 6) x1.toNat))), (0, .ref m), (1, .int (zI x1)), (2, .int (zI x2))] [] σ Q) := by
    intro c
    have h := g168 c
    refine j_iload_n d_Ma_perform_168 3 rfl ?_
    obtain ⟨r10, h⟩ := h
    obtain ⟨h1, h2⟩ := h
    refine zj_if_ne 184 d_Ma_perform_169 (by decide) r10 (fun k11 => ?_) (fun k11 => ?_)
    · have h := h1 k11
      refine j_aload_n d_Ma_perform_184 1 rfl ?_
      refine j_iload_n d_Ma_perform_185 2 rfl ?_
      refine j_iload_n d_Ma_perform_186 0 rfl ?_
      refine j_callV m_Ma_enter [.int (zI x1), .int (zI (z σ (p + 6) x1.toNat))] [] d 0 0 cV_Ma_79 d_Ma_perform_187 rfl rfl (tY_m_0 hE hm) (q_okE hE (by omega)) (Nat.le_of_ble_eq_true rfl) (Nat.le_refl _) (Nat.le_of_ble_eq_true rfl) (Nat.zero_le _) (Nat.zero_le _) h (fun v τ h => ?_) (fun x τ h => ?_)
      · obtain ⟨v, hv, e1, h⟩ := h; cases e1; exact j_sel [] rfl h
      · obtain ⟨v, hv, e1, h⟩ := h; cases e1
    · have h := h2 k11
      refine j_aload_n d_Ma_perform_172 1 rfl ?_
      refine j_getR p f_Ma_37 d_Ma_perform_173 (tY_m_0 hE hm) (q_okE hE (by omega)) (rm5) (by omega) ?_
      refine j_getR (p + 9) f_Ma_76 d_Ma_perform_176 (tY_p_0 hE hp) (q_okE hE (by omega)) (rY_p_16 hE hp) (by omega) ?_
      refine j_iload_n d_Ma_perform_179 2 rfl ?_
      refine zj_iald (z σ (p + 9) x1.toNat) d_Ma_perform_180 (tY_p_9 hE hp) (q_okE hE (by omega)) c1 (by decide) (q_z _ _ _) ?_
      refine j_goto 190 d_Ma_perform_181 (by decide) ?_
      exact zj_iret d_Ma_perform_190 rfl (Nat.zero_le _) (Nat.zero_le _) h
  have jgD : q_imp ((z σ (p + 5) x1.toNat) ≠ 1 ∧ (z σ (p + 5) x1.toNat) ≠ 2 ∧ (z σ (p + 5) x1.toNat) ≠ 3 ∧ (z σ (p + 5) x1.toNat) ≠ 4 ∧ (z σ (p + 5) x1.toNat) ≠ 5 ∧ (z σ (p + 5) x1.toNat) ≠ 7 ∧ (z σ (p + 5) x1.toNat) ≠ 8 ∧ (z σ (p + 5) x1.toNat) ≠ 9) (J ω m_Ma_perform (d + 1) mc ms 0 0 191 [(3, .int (zI (z σ (p + 6) x1.toNat))), (0, .ref m), (1, .int (zI x1)), (2, .int (zI x2))] [] σ Q) := by
    intro c
    have h := gD c
    refine j_iload_n d_Ma_perform_191 2 rfl ?_
    refine j_iconst (v := zI 1) d_Ma_perform_192 (by decide) ?_
    refine zj_iadd (x1 + 1) (by omega) d_Ma_perform_193 ?_
    exact zj_iret d_Ma_perform_194 rfl (Nat.zero_le _) (Nat.zero_le _) h
  by_cases cs1 : (z σ (p + 5) x1.toNat) = 1
  · exact j_topE (v := zI 1) (by rw [cs1]) (j_tabIn 68 d_Ma_perform_19 (by decide) (by decide) rfl (by decide) (jg68 cs1))
  by_cases cs2 : (z σ (p + 5) x1.toNat) = 2
  · exact j_topE (v := zI 2) (by rw [cs2]) (j_tabIn 91 d_Ma_perform_19 (by decide) (by decide) rfl (by decide) (jg91 cs2))
  by_cases cs3 : (z σ (p + 5) x1.toNat) = 3
  · exact j_topE (v := zI 3) (by rw [cs3]) (j_tabIn 108 d_Ma_perform_19 (by decide) (by decide) rfl (by decide) (jg108 cs3))
  by_cases cs4 : (z σ (p + 5) x1.toNat) = 4
  · exact j_topE (v := zI 4) (by rw [cs4]) (j_tabIn 120 d_Ma_perform_19 (by decide) (by decide) rfl (by decide) (jg120 cs4))
  by_cases cs5 : (z σ (p + 5) x1.toNat) = 5
  · exact j_topE (v := zI 5) (by rw [cs5]) (j_tabIn 140 d_Ma_perform_19 (by decide) (by decide) rfl (by decide) (jg140 (Or.inl cs5)))
  by_cases cs6 : (z σ (p + 5) x1.toNat) = 6
  · exact j_topE (v := zI 6) (by rw [cs6]) (j_tabIn 191 d_Ma_perform_19 (by decide) (by decide) rfl (by decide) (jgD ⟨cs1, cs2, cs3, cs4, cs5, (fun ee => absurd (cs6.symm.trans ee) (by decide)), (fun ee => absurd (cs6.symm.trans ee) (by decide)), (fun ee => absurd (cs6.symm.trans ee) (by decide))⟩))
  by_cases cs7 : (z σ (p + 5) x1.toNat) = 7
  · exact j_topE (v := zI 7) (by rw [cs7]) (j_tabIn 150 d_Ma_perform_19 (by decide) (by decide) rfl (by decide) (jg150 cs7))
  by_cases cs8 : (z σ (p + 5) x1.toNat) = 8
  · exact j_topE (v := zI 8) (by rw [cs8]) (j_tabIn 168 d_Ma_perform_19 (by decide) (by decide) rfl (by decide) (jg168 cs8))
  by_cases cs9 : (z σ (p + 5) x1.toNat) = 9
  · exact j_topE (v := zI 9) (by rw [cs9]) (j_tabIn 140 d_Ma_perform_19 (by decide) (by decide) rfl (by decide) (jg140 (Or.inr (cs9))))
  exact j_tabOut 191 d_Ma_perform_19 (by rw [zI_toInt (z_R _ _ _)]; exact o_Ma_perform_19 cs1 cs2 cs3 cs4 cs5 cs6 cs7 cs8 cs9) (by decide) (jgD ⟨cs1, cs2, cs3, cs4, cs5, cs7, cs8, cs9⟩)
set_option maxHeartbeats 2000000 in
theorem b_Ma_perform_190 {ω : q_W} {σ : q_H} {Q : q_R → q_H → Prop} {d mc ms : Nat} {y0 : Int} {m : Nat} (hm : m = 43 ∨ m = 87) {p : Nat} (hp : p = 16 ∨ p = 29) {w : Nat} (hw : w = 42 ∨ w = 91) (rm5 : q_r σ m 5 = p) (rm6 : q_r σ m 6 = w) (hE : q_E σ) (h : (Q (.inl (some (.int (zI y0)))) σ)) : J ω m_Ma_perform (d + 1) mc ms 0 0 190 [] [.int (zI y0)] σ Q := by
  exact zj_iret d_Ma_perform_190 rfl (Nat.zero_le _) (Nat.zero_le _) h
