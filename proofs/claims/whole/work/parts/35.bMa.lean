/-! stretches of bytecode as conditions: Ma_both -/
theorem d_Ma_both_0 : decode m_Ma_both.2.1 0 = .ok (.iload_n 0, 1) := by decide +kernel
theorem d_Ma_both_1 : decode m_Ma_both.2.1 1 = .ok (.tableswitch 189 1 11 #[59, 76, 93, 97, 101, 105, 119, 133, 147, 161, 175], 59) := by decide +kernel
theorem d_Ma_both_60 : decode m_Ma_both.2.1 60 = .ok (.iload_n 1, 1) := by decide +kernel
theorem d_Ma_both_61 : decode m_Ma_both.2.1 61 = .ok (.ifCond .ne 7, 3) := by decide +kernel
theorem d_Ma_both_64 : decode m_Ma_both.2.1 64 = .ok (.iload_n 2, 1) := by decide +kernel
theorem d_Ma_both_65 : decode m_Ma_both.2.1 65 = .ok (.ifCond .eq 7, 3) := by decide +kernel
theorem d_Ma_both_68 : decode m_Ma_both.2.1 68 = .ok (.iconst 1, 1) := by decide +kernel
theorem d_Ma_both_69 : decode m_Ma_both.2.1 69 = .ok (.goto 4, 3) := by decide +kernel
theorem d_Ma_both_72 : decode m_Ma_both.2.1 72 = .ok (.iconst 0, 1) := by decide +kernel
theorem d_Ma_both_73 : decode m_Ma_both.2.1 73 = .ok (.invokestatic 101, 3) := by decide +kernel
theorem d_Ma_both_76 : decode m_Ma_both.2.1 76 = .ok (.ireturn, 1) := by decide +kernel
theorem d_Ma_both_77 : decode m_Ma_both.2.1 77 = .ok (.iload_n 1, 1) := by decide +kernel
theorem d_Ma_both_78 : decode m_Ma_both.2.1 78 = .ok (.ifCond .eq 11, 3) := by decide +kernel
theorem d_Ma_both_81 : decode m_Ma_both.2.1 81 = .ok (.iload_n 2, 1) := by decide +kernel
theorem d_Ma_both_82 : decode m_Ma_both.2.1 82 = .ok (.ifCond .eq 7, 3) := by decide +kernel
theorem d_Ma_both_85 : decode m_Ma_both.2.1 85 = .ok (.iconst 1, 1) := by decide +kernel
theorem d_Ma_both_86 : decode m_Ma_both.2.1 86 = .ok (.goto 4, 3) := by decide +kernel
theorem d_Ma_both_89 : decode m_Ma_both.2.1 89 = .ok (.iconst 0, 1) := by decide +kernel
theorem d_Ma_both_90 : decode m_Ma_both.2.1 90 = .ok (.invokestatic 101, 3) := by decide +kernel
theorem d_Ma_both_93 : decode m_Ma_both.2.1 93 = .ok (.ireturn, 1) := by decide +kernel
theorem d_Ma_both_94 : decode m_Ma_both.2.1 94 = .ok (.iload_n 1, 1) := by decide +kernel
theorem d_Ma_both_95 : decode m_Ma_both.2.1 95 = .ok (.iload_n 2, 1) := by decide +kernel
theorem d_Ma_both_96 : decode m_Ma_both.2.1 96 = .ok (.ior, 1) := by decide +kernel
theorem d_Ma_both_97 : decode m_Ma_both.2.1 97 = .ok (.ireturn, 1) := by decide +kernel
theorem d_Ma_both_98 : decode m_Ma_both.2.1 98 = .ok (.iload_n 1, 1) := by decide +kernel
theorem d_Ma_both_99 : decode m_Ma_both.2.1 99 = .ok (.iload_n 2, 1) := by decide +kernel
theorem d_Ma_both_100 : decode m_Ma_both.2.1 100 = .ok (.ixor, 1) := by decide +kernel
theorem d_Ma_both_101 : decode m_Ma_both.2.1 101 = .ok (.ireturn, 1) := by decide +kernel
theorem d_Ma_both_102 : decode m_Ma_both.2.1 102 = .ok (.iload_n 1, 1) := by decide +kernel
theorem d_Ma_both_103 : decode m_Ma_both.2.1 103 = .ok (.iload_n 2, 1) := by decide +kernel
theorem d_Ma_both_104 : decode m_Ma_both.2.1 104 = .ok (.iand, 1) := by decide +kernel
theorem d_Ma_both_105 : decode m_Ma_both.2.1 105 = .ok (.ireturn, 1) := by decide +kernel
theorem d_Ma_both_106 : decode m_Ma_both.2.1 106 = .ok (.iload_n 1, 1) := by decide +kernel
theorem d_Ma_both_107 : decode m_Ma_both.2.1 107 = .ok (.iload_n 2, 1) := by decide +kernel
theorem d_Ma_both_108 : decode m_Ma_both.2.1 108 = .ok (.if_icmp .ne 7, 3) := by decide +kernel
theorem d_Ma_both_111 : decode m_Ma_both.2.1 111 = .ok (.iconst 1, 1) := by decide +kernel
theorem d_Ma_both_112 : decode m_Ma_both.2.1 112 = .ok (.goto 4, 3) := by decide +kernel
theorem d_Ma_both_115 : decode m_Ma_both.2.1 115 = .ok (.iconst 0, 1) := by decide +kernel
theorem d_Ma_both_116 : decode m_Ma_both.2.1 116 = .ok (.invokestatic 101, 3) := by decide +kernel
theorem d_Ma_both_119 : decode m_Ma_both.2.1 119 = .ok (.ireturn, 1) := by decide +kernel
theorem d_Ma_both_120 : decode m_Ma_both.2.1 120 = .ok (.iload_n 1, 1) := by decide +kernel
theorem d_Ma_both_121 : decode m_Ma_both.2.1 121 = .ok (.iload_n 2, 1) := by decide +kernel
theorem d_Ma_both_122 : decode m_Ma_both.2.1 122 = .ok (.if_icmp .eq 7, 3) := by decide +kernel
theorem d_Ma_both_125 : decode m_Ma_both.2.1 125 = .ok (.iconst 1, 1) := by decide +kernel
theorem d_Ma_both_126 : decode m_Ma_both.2.1 126 = .ok (.goto 4, 3) := by decide +kernel
theorem d_Ma_both_129 : decode m_Ma_both.2.1 129 = .ok (.iconst 0, 1) := by decide +kernel
theorem d_Ma_both_130 : decode m_Ma_both.2.1 130 = .ok (.invokestatic 101, 3) := by decide +kernel
theorem d_Ma_both_133 : decode m_Ma_both.2.1 133 = .ok (.ireturn, 1) := by decide +kernel
theorem d_Ma_both_134 : decode m_Ma_both.2.1 134 = .ok (.iload_n 1, 1) := by decide +kernel
theorem d_Ma_both_135 : decode m_Ma_both.2.1 135 = .ok (.iload_n 2, 1) := by decide +kernel
theorem d_Ma_both_136 : decode m_Ma_both.2.1 136 = .ok (.if_icmp .ge 7, 3) := by decide +kernel
theorem d_Ma_both_139 : decode m_Ma_both.2.1 139 = .ok (.iconst 1, 1) := by decide +kernel
theorem d_Ma_both_140 : decode m_Ma_both.2.1 140 = .ok (.goto 4, 3) := by decide +kernel
theorem d_Ma_both_143 : decode m_Ma_both.2.1 143 = .ok (.iconst 0, 1) := by decide +kernel
theorem d_Ma_both_144 : decode m_Ma_both.2.1 144 = .ok (.invokestatic 101, 3) := by decide +kernel
theorem d_Ma_both_147 : decode m_Ma_both.2.1 147 = .ok (.ireturn, 1) := by decide +kernel
theorem d_Ma_both_148 : decode m_Ma_both.2.1 148 = .ok (.iload_n 1, 1) := by decide +kernel
theorem d_Ma_both_149 : decode m_Ma_both.2.1 149 = .ok (.iload_n 2, 1) := by decide +kernel
theorem d_Ma_both_150 : decode m_Ma_both.2.1 150 = .ok (.if_icmp .gt 7, 3) := by decide +kernel
theorem d_Ma_both_153 : decode m_Ma_both.2.1 153 = .ok (.iconst 1, 1) := by decide +kernel
theorem d_Ma_both_154 : decode m_Ma_both.2.1 154 = .ok (.goto 4, 3) := by decide +kernel
theorem d_Ma_both_157 : decode m_Ma_both.2.1 157 = .ok (.iconst 0, 1) := by decide +kernel
theorem d_Ma_both_158 : decode m_Ma_both.2.1 158 = .ok (.invokestatic 101, 3) := by decide +kernel
theorem d_Ma_both_161 : decode m_Ma_both.2.1 161 = .ok (.ireturn, 1) := by decide +kernel
theorem d_Ma_both_162 : decode m_Ma_both.2.1 162 = .ok (.iload_n 1, 1) := by decide +kernel
theorem d_Ma_both_163 : decode m_Ma_both.2.1 163 = .ok (.iload_n 2, 1) := by decide +kernel
theorem d_Ma_both_164 : decode m_Ma_both.2.1 164 = .ok (.if_icmp .le 7, 3) := by decide +kernel
theorem d_Ma_both_167 : decode m_Ma_both.2.1 167 = .ok (.iconst 1, 1) := by decide +kernel
theorem d_Ma_both_168 : decode m_Ma_both.2.1 168 = .ok (.goto 4, 3) := by decide +kernel
theorem d_Ma_both_171 : decode m_Ma_both.2.1 171 = .ok (.iconst 0, 1) := by decide +kernel
theorem d_Ma_both_172 : decode m_Ma_both.2.1 172 = .ok (.invokestatic 101, 3) := by decide +kernel
theorem d_Ma_both_175 : decode m_Ma_both.2.1 175 = .ok (.ireturn, 1) := by decide +kernel
theorem d_Ma_both_176 : decode m_Ma_both.2.1 176 = .ok (.iload_n 1, 1) := by decide +kernel
theorem d_Ma_both_177 : decode m_Ma_both.2.1 177 = .ok (.iload_n 2, 1) := by decide +kernel
theorem d_Ma_both_178 : decode m_Ma_both.2.1 178 = .ok (.if_icmp .lt 7, 3) := by decide +kernel
theorem d_Ma_both_181 : decode m_Ma_both.2.1 181 = .ok (.iconst 1, 1) := by decide +kernel
theorem d_Ma_both_182 : decode m_Ma_both.2.1 182 = .ok (.goto 4, 3) := by decide +kernel
theorem d_Ma_both_185 : decode m_Ma_both.2.1 185 = .ok (.iconst 0, 1) := by decide +kernel
theorem d_Ma_both_186 : decode m_Ma_both.2.1 186 = .ok (.invokestatic 101, 3) := by decide +kernel
theorem d_Ma_both_189 : decode m_Ma_both.2.1 189 = .ok (.ireturn, 1) := by decide +kernel
theorem d_Ma_both_190 : decode m_Ma_both.2.1 190 = .ok (.iload_n 0, 1) := by decide +kernel
theorem d_Ma_both_191 : decode m_Ma_both.2.1 191 = .ok (.iload_n 1, 1) := by decide +kernel
theorem d_Ma_both_192 : decode m_Ma_both.2.1 192 = .ok (.iload_n 2, 1) := by decide +kernel
theorem d_Ma_both_193 : decode m_Ma_both.2.1 193 = .ok (.iload_n 3, 1) := by decide +kernel
theorem d_Ma_both_194 : decode m_Ma_both.2.1 194 = .ok (.invokestatic 105, 3) := by decide +kernel
theorem d_Ma_both_197 : decode m_Ma_both.2.1 197 = .ok (.ireturn, 1) := by decide +kernel
theorem cd_Ma_truth : q_cd m_Ma_truth := ⟨by decide +kernel, List.mem_of_getElem? (i := 9) (by decide +kernel), Or.inl ⟨rfl, List.mem_of_getElem? (i := 1357) (by decide +kernel)⟩⟩
theorem cS_Ma_101 : q_CS "ProofHall$Machine" 101 m_Ma_truth 1 := ⟨⟨cd_Ma_truth, by decide, by decide, by decide, by decide +kernel⟩, Or.inl (List.mem_of_getElem? (i := 1355) (by decide +kernel)), List.mem_of_getElem? (i := 1356) (by decide +kernel)⟩
theorem cd_Ma_arithmetic : q_cd m_Ma_arithmetic := ⟨by decide +kernel, List.mem_of_getElem? (i := 9) (by decide +kernel), Or.inl ⟨rfl, List.mem_of_getElem? (i := 1366) (by decide +kernel)⟩⟩
theorem cS_Ma_105 : q_CS "ProofHall$Machine" 105 m_Ma_arithmetic 4 := ⟨⟨cd_Ma_arithmetic, by decide, by decide, by decide, by decide +kernel⟩, Or.inl (List.mem_of_getElem? (i := 1364) (by decide +kernel)), List.mem_of_getElem? (i := 1365) (by decide +kernel)⟩
theorem o_Ma_both_1 {x : Int} (cs1 : ¬ x = 1) (cs2 : ¬ x = 2) (cs3 : ¬ x = 3) (cs4 : ¬ x = 4) (cs5 : ¬ x = 5) (cs6 : ¬ x = 6) (cs7 : ¬ x = 7) (cs8 : ¬ x = 8) (cs9 : ¬ x = 9) (cs10 : ¬ x = 10) (cs11 : ¬ x = 11) : x < 1 ∨ 11 < x := by omega
set_option maxHeartbeats 2000000 in
theorem b_Ma_both_0 {ω : q_W} {σ : q_H} {Q : q_R → q_H → Prop} {d mc ms : Nat} {x0 : Int} {x1 : Int} {x2 : Int} {x3 : Int}  (hE : q_E σ) (h : inR x0 ∧ q_imp (x0 = 1) (inR x1 ∧ q_imp (x1 ≠ 0) ((Q (.inl (some (.int (zI (zIf ((1 : Int) ≠ 0)))))) σ)) ∧ q_imp (x1 = 0) (inR x2 ∧ q_imp (x2 = 0) ((Q (.inl (some (.int (zI (zIf ((0 : Int) ≠ 0)))))) σ)) ∧ q_imp (x2 ≠ 0) ((Q (.inl (some (.int (zI (zIf ((1 : Int) ≠ 0)))))) σ)))) ∧ q_imp (x0 = 2) (inR x1 ∧ q_imp (x1 = 0) ((Q (.inl (some (.int (zI (zIf ((0 : Int) ≠ 0)))))) σ)) ∧ q_imp (x1 ≠ 0) (inR x2 ∧ q_imp (x2 = 0) ((Q (.inl (some (.int (zI (zIf ((0 : Int) ≠ 0)))))) σ)) ∧ q_imp (x2 ≠ 0) ((Q (.inl (some (.int (zI (zIf ((1 : Int) ≠ 0)))))) σ)))) ∧ q_imp (x0 = 3) ((Q (.inl (some (.int (zI (zOr x1 x2))))) σ)) ∧ q_imp (x0 = 4) ((Q (.inl (some (.int (zI (zXor x1 x2))))) σ)) ∧ q_imp (x0 = 5) ((Q (.inl (some (.int (zI (zAnd x1 x2))))) σ)) ∧ q_imp (x0 = 6) (inR x1 ∧ inR x2 ∧ q_imp (x1 ≠ x2) ((Q (.inl (some (.int (zI (zIf ((0 : Int) ≠ 0)))))) σ)) ∧ q_imp (x1 = x2) ((Q (.inl (some (.int (zI (zIf ((1 : Int) ≠ 0)))))) σ))) ∧ q_imp (x0 = 7) (inR x1 ∧ inR x2 ∧ q_imp (x1 = x2) ((Q (.inl (some (.int (zI (zIf ((0 : Int) ≠ 0)))))) σ)) ∧ q_imp (x1 ≠ x2) ((Q (.inl (some (.int (zI (zIf ((1 : Int) ≠ 0)))))) σ))) ∧ q_imp (x0 = 8) (inR x1 ∧ inR x2 ∧ q_imp (x1 ≥ x2) ((Q (.inl (some (.int (zI (zIf ((0 : Int) ≠ 0)))))) σ)) ∧ q_imp (x1 < x2) ((Q (.inl (some (.int (zI (zIf ((1 : Int) ≠ 0)))))) σ))) ∧ q_imp (x0 = 9) (inR x1 ∧ inR x2 ∧ q_imp (x1 > x2) ((Q (.inl (some (.int (zI (zIf ((0 : Int) ≠ 0)))))) σ)) ∧ q_imp (x1 ≤ x2) ((Q (.inl (some (.int (zI (zIf ((1 : Int) ≠ 0)))))) σ))) ∧ q_imp (x0 = 10) (inR x1 ∧ inR x2 ∧ q_imp (x1 ≤ x2) ((Q (.inl (some (.int (zI (zIf ((0 : Int) ≠ 0)))))) σ)) ∧ q_imp (x1 > x2) ((Q (.inl (some (.int (zI (zIf ((1 : Int) ≠ 0)))))) σ))) ∧ q_imp (x0 = 11) (inR x1 ∧ inR x2 ∧ q_imp (x1 < x2) ((Q (.inl (some (.int (zI (zIf ((0 : Int) ≠ 0)))))) σ)) ∧ q_imp (x1 ≥ x2) ((Q (.inl (some (.int (zI (zIf ((1 : Int) ≠ 0)))))) σ))) ∧ q_imp (x0 ≠ 1 ∧ x0 ≠ 2 ∧ x0 ≠ 3 ∧ x0 ≠ 4 ∧ x0 ≠ 5 ∧ x0 ≠ 6 ∧ x0 ≠ 7 ∧ x0 ≠ 8 ∧ x0 ≠ 9 ∧ x0 ≠ 10 ∧ x0 ≠ 11) ((J ω m_Ma_arithmetic d 0 0 0 0 0 [(0, .int (zI x0)), (1, .int (zI x1)), (2, .int (zI x2)), (3, .int (zI x3))] [] σ (q_ki (fun v τ => J ω m_Ma_both (d + 1) mc ms 0 0 197 [] [.int (zI v)] τ Q))))) : J ω m_Ma_both (d + 1) mc ms 0 0 0 [(0, .int (zI x0)), (1, .int (zI x1)), (2, .int (zI x2)), (3, .int (zI x3))] [] σ Q := by
  refine j_iload_n d_Ma_both_0 0 rfl ?_
  obtain ⟨r1, h⟩ := h
  obtain ⟨g60, g77, g94, g98, g102, g106, g120, g134, g148, g162, g176, gD⟩ := h
  have jg60 : q_imp (x0 = 1) (J ω m_Ma_both (d + 1) mc ms 0 0 60 [(0, .int (zI x0)), (1, .int (zI x1)), (2, .int (zI x2)), (3, .int (zI x3))] [] σ Q) := by
    intro c
    have h := g60 c
    refine j_iload_n d_Ma_both_60 1 rfl ?_
    obtain ⟨r2, h⟩ := h
    obtain ⟨h1, h2⟩ := h
    refine zj_if_ne 68 d_Ma_both_61 (by decide) r2 (fun k3 => ?_) (fun k3 => ?_)
    · have h := h1 k3
      refine j_iconst (v := zI 1) d_Ma_both_68 (by decide) ?_
      refine j_goto 73 d_Ma_both_69 (by decide) ?_
      refine j_callS m_Ma_truth [.int (zI 1)] [] 0 0 0 cS_Ma_101 d_Ma_both_73 rfl rfl (Nat.le_of_ble_eq_true rfl) (Nat.succ_le_succ (Nat.zero_le _)) (Nat.le_of_ble_eq_true rfl) (Nat.zero_le _) (Nat.zero_le _) (c_Ma_truth hE ⟨by decide, by decide⟩) (fun v τ h => ?_) (fun x τ h => absurd h.1 (by simp))
      obtain ⟨e1, e2⟩ := h; cases e1; rw [e2]
      exact zj_iret d_Ma_both_76 rfl (Nat.zero_le _) (Nat.zero_le _) h
    · have h := h2 k3
      refine j_iload_n d_Ma_both_64 2 rfl ?_
      obtain ⟨r4, h⟩ := h
      obtain ⟨h1, h2⟩ := h
      refine zj_if_eq 72 d_Ma_both_65 (by decide) r4 (fun k5 => ?_) (fun k5 => ?_)
      · have h := h1 k5
        refine j_iconst (v := zI 0) d_Ma_both_72 (by decide) ?_
        refine j_callS m_Ma_truth [.int (zI 0)] [] 0 0 0 cS_Ma_101 d_Ma_both_73 rfl rfl (Nat.le_of_ble_eq_true rfl) (Nat.succ_le_succ (Nat.zero_le _)) (Nat.le_of_ble_eq_true rfl) (Nat.zero_le _) (Nat.zero_le _) (c_Ma_truth hE ⟨by decide, by decide⟩) (fun v τ h => ?_) (fun x τ h => absurd h.1 (by simp))
        obtain ⟨e1, e2⟩ := h; cases e1; rw [e2]
        exact zj_iret d_Ma_both_76 rfl (Nat.zero_le _) (Nat.zero_le _) h
      · have h := h2 k5
        refine j_iconst (v := zI 1) d_Ma_both_68 (by decide) ?_
        refine j_goto 73 d_Ma_both_69 (by decide) ?_
        refine j_callS m_Ma_truth [.int (zI 1)] [] 0 0 0 cS_Ma_101 d_Ma_both_73 rfl rfl (Nat.le_of_ble_eq_true rfl) (Nat.succ_le_succ (Nat.zero_le _)) (Nat.le_of_ble_eq_true rfl) (Nat.zero_le _) (Nat.zero_le _) (c_Ma_truth hE ⟨by decide, by decide⟩) (fun v τ h => ?_) (fun x τ h => absurd h.1 (by simp))
        obtain ⟨e1, e2⟩ := h; cases e1; rw [e2]
        exact zj_iret d_Ma_both_76 rfl (Nat.zero_le _) (Nat.zero_le _) h
  have jg77 : q_imp (x0 = 2) (J ω m_Ma_both (d + 1) mc ms 0 0 77 [(0, .int (zI x0)), (1, .int (zI x1)), (2, .int (zI x2)), (3, .int (zI x3))] [] σ Q) := by
    intro c
    have h := g77 c
    refine j_iload_n d_Ma_both_77 1 rfl ?_
    obtain ⟨r6, h⟩ := h
    obtain ⟨h1, h2⟩ := h
    refine zj_if_eq 89 d_Ma_both_78 (by decide) r6 (fun k7 => ?_) (fun k7 => ?_)
    · have h := h1 k7
      refine j_iconst (v := zI 0) d_Ma_both_89 (by decide) ?_
      refine j_callS m_Ma_truth [.int (zI 0)] [] 0 0 0 cS_Ma_101 d_Ma_both_90 rfl rfl (Nat.le_of_ble_eq_true rfl) (Nat.succ_le_succ (Nat.zero_le _)) (Nat.le_of_ble_eq_true rfl) (Nat.zero_le _) (Nat.zero_le _) (c_Ma_truth hE ⟨by decide, by decide⟩) (fun v τ h => ?_) (fun x τ h => absurd h.1 (by simp))
      obtain ⟨e1, e2⟩ := h; cases e1; rw [e2]
      exact zj_iret d_Ma_both_93 rfl (Nat.zero_le _) (Nat.zero_le _) h
    · have h := h2 k7
      refine j_iload_n d_Ma_both_81 2 rfl ?_
      obtain ⟨r8, h⟩ := h
      obtain ⟨h1, h2⟩ := h
      refine zj_if_eq 89 d_Ma_both_82 (by decide) r8 (fun k9 => ?_) (fun k9 => ?_)
      · have h := h1 k9
        refine j_iconst (v := zI 0) d_Ma_both_89 (by decide) ?_
        refine j_callS m_Ma_truth [.int (zI 0)] [] 0 0 0 cS_Ma_101 d_Ma_both_90 rfl rfl (Nat.le_of_ble_eq_true rfl) (Nat.succ_le_succ (Nat.zero_le _)) (Nat.le_of_ble_eq_true rfl) (Nat.zero_le _) (Nat.zero_le _) (c_Ma_truth hE ⟨by decide, by decide⟩) (fun v τ h => ?_) (fun x τ h => absurd h.1 (by simp))
        obtain ⟨e1, e2⟩ := h; cases e1; rw [e2]
        exact zj_iret d_Ma_both_93 rfl (Nat.zero_le _) (Nat.zero_le _) h
      · have h := h2 k9
        refine j_iconst (v := zI 1) d_Ma_both_85 (by decide) ?_
        refine j_goto 90 d_Ma_both_86 (by decide) ?_
        refine j_callS m_Ma_truth [.int (zI 1)] [] 0 0 0 cS_Ma_101 d_Ma_both_90 rfl rfl (Nat.le_of_ble_eq_true rfl) (Nat.succ_le_succ (Nat.zero_le _)) (Nat.le_of_ble_eq_true rfl) (Nat.zero_le _) (Nat.zero_le _) (c_Ma_truth hE ⟨by decide, by decide⟩) (fun v τ h => ?_) (fun x τ h => absurd h.1 (by simp))
        obtain ⟨e1, e2⟩ := h; cases e1; rw [e2]
        exact zj_iret d_Ma_both_93 rfl (Nat.zero_le _) (Nat.zero_le _) h
  have jg94 : q_imp (x0 = 3) (J ω m_Ma_both (d + 1) mc ms 0 0 94 [(0, .int (zI x0)), (1, .int (zI x1)), (2, .int (zI x2)), (3, .int (zI x3))] [] σ Q) := by
    intro c
    have h := g94 c
    refine j_iload_n d_Ma_both_94 1 rfl ?_
    refine j_iload_n d_Ma_both_95 2 rfl ?_
    refine zj_ior d_Ma_both_96 ?_
    exact zj_iret d_Ma_both_97 rfl (Nat.zero_le _) (Nat.zero_le _) h
  have jg98 : q_imp (x0 = 4) (J ω m_Ma_both (d + 1) mc ms 0 0 98 [(0, .int (zI x0)), (1, .int (zI x1)), (2, .int (zI x2)), (3, .int (zI x3))] [] σ Q) := by
    intro c
    have h := g98 c
    refine j_iload_n d_Ma_both_98 1 rfl ?_
    refine j_iload_n d_Ma_both_99 2 rfl ?_
    refine zj_ixor d_Ma_both_100 ?_
    exact zj_iret d_Ma_both_101 rfl (Nat.zero_le _) (Nat.zero_le _) h
  have jg102 : q_imp (x0 = 5) (J ω m_Ma_both (d + 1) mc ms 0 0 102 [(0, .int (zI x0)), (1, .int (zI x1)), (2, .int (zI x2)), (3, .int (zI x3))] [] σ Q) := by
    intro c
    have h := g102 c
    refine j_iload_n d_Ma_both_102 1 rfl ?_
    refine j_iload_n d_Ma_both_103 2 rfl ?_
    refine zj_iand d_Ma_both_104 ?_
    exact zj_iret d_Ma_both_105 rfl (Nat.zero_le _) (Nat.zero_le _) h
  have jg106 : q_imp (x0 = 6) (J ω m_Ma_both (d + 1) mc ms 0 0 106 [(0, .int (zI x0)), (1, .int (zI x1)), (2, .int (zI x2)), (3, .int (zI x3))] [] σ Q) := by
    intro c
    have h := g106 c
    refine j_iload_n d_Ma_both_106 1 rfl ?_
    refine j_iload_n d_Ma_both_107 2 rfl ?_
    obtain ⟨r10, h⟩ := h
    obtain ⟨r11, h⟩ := h
    obtain ⟨h1, h2⟩ := h
    refine zj_icmp_ne 115 d_Ma_both_108 (by decide) r10 r11 (fun k12 => ?_) (fun k12 => ?_)
    · have h := h1 k12
      refine j_iconst (v := zI 0) d_Ma_both_115 (by decide) ?_
      refine j_callS m_Ma_truth [.int (zI 0)] [] 0 0 0 cS_Ma_101 d_Ma_both_116 rfl rfl (Nat.le_of_ble_eq_true rfl) (Nat.succ_le_succ (Nat.zero_le _)) (Nat.le_of_ble_eq_true rfl) (Nat.zero_le _) (Nat.zero_le _) (c_Ma_truth hE ⟨by decide, by decide⟩) (fun v τ h => ?_) (fun x τ h => absurd h.1 (by simp))
      obtain ⟨e1, e2⟩ := h; cases e1; rw [e2]
      exact zj_iret d_Ma_both_119 rfl (Nat.zero_le _) (Nat.zero_le _) h
    · have h := h2 k12
      refine j_iconst (v := zI 1) d_Ma_both_111 (by decide) ?_
      refine j_goto 116 d_Ma_both_112 (by decide) ?_
      refine j_callS m_Ma_truth [.int (zI 1)] [] 0 0 0 cS_Ma_101 d_Ma_both_116 rfl rfl (Nat.le_of_ble_eq_true rfl) (Nat.succ_le_succ (Nat.zero_le _)) (Nat.le_of_ble_eq_true rfl) (Nat.zero_le _) (Nat.zero_le _) (c_Ma_truth hE ⟨by decide, by decide⟩) (fun v τ h => ?_) (fun x τ h => absurd h.1 (by simp))
      obtain ⟨e1, e2⟩ := h; cases e1; rw [e2]
      exact zj_iret d_Ma_both_119 rfl (Nat.zero_le _) (Nat.zero_le _) h
  have jg120 : q_imp (x0 = 7) (J ω m_Ma_both (d + 1) mc ms 0 0 120 [(0, .int (zI x0)), (1, .int (zI x1)), (2, .int (zI x2)), (3, .int (zI x3))] [] σ Q) := by
    intro c
    have h := g120 c
    refine j_iload_n d_Ma_both_120 1 rfl ?_
    refine j_iload_n d_Ma_both_121 2 rfl ?_
    obtain ⟨r13, h⟩ := h
    obtain ⟨r14, h⟩ := h
    obtain ⟨h1, h2⟩ := h
    refine zj_icmp_eq 129 d_Ma_both_122 (by decide) r13 r14 (fun k15 => ?_) (fun k15 => ?_)
    · have h := h1 k15
      refine j_iconst (v := zI 0) d_Ma_both_129 (by decide) ?_
      refine j_callS m_Ma_truth [.int (zI 0)] [] 0 0 0 cS_Ma_101 d_Ma_both_130 rfl rfl (Nat.le_of_ble_eq_true rfl) (Nat.succ_le_succ (Nat.zero_le _)) (Nat.le_of_ble_eq_true rfl) (Nat.zero_le _) (Nat.zero_le _) (c_Ma_truth hE ⟨by decide, by decide⟩) (fun v τ h => ?_) (fun x τ h => absurd h.1 (by simp))
      obtain ⟨e1, e2⟩ := h; cases e1; rw [e2]
      exact zj_iret d_Ma_both_133 rfl (Nat.zero_le _) (Nat.zero_le _) h
    · have h := h2 k15
      refine j_iconst (v := zI 1) d_Ma_both_125 (by decide) ?_
      refine j_goto 130 d_Ma_both_126 (by decide) ?_
      refine j_callS m_Ma_truth [.int (zI 1)] [] 0 0 0 cS_Ma_101 d_Ma_both_130 rfl rfl (Nat.le_of_ble_eq_true rfl) (Nat.succ_le_succ (Nat.zero_le _)) (Nat.le_of_ble_eq_true rfl) (Nat.zero_le _) (Nat.zero_le _) (c_Ma_truth hE ⟨by decide, by decide⟩) (fun v τ h => ?_) (fun x τ h => absurd h.1 (by simp))
      obtain ⟨e1, e2⟩ := h; cases e1; rw [e2]
      exact zj_iret d_Ma_both_133 rfl (Nat.zero_le _) (Nat.zero_le _) h
  have jg134 : q_imp (x0 = 8) (J ω m_Ma_both (d + 1) mc ms 0 0 134 [(0, .int (zI x0)), (1, .int (zI x1)), (2, .int (zI x2)), (3, .int (zI x3))] [] σ Q) := by
    intro c
    have h := g134 c
    refine j_iload_n d_Ma_both_134 1 rfl ?_
    refine j_iload_n d_Ma_both_135 2 rfl ?_
    obtain ⟨r16, h⟩ := h
    obtain ⟨r17, h⟩ := h
    obtain ⟨h1, h2⟩ := h
    refine zj_icmp_ge 143 d_Ma_both_136 (by decide) r16 r17 (fun k18 => ?_) (fun k18 => ?_)
    · have h := h1 k18
      refine j_iconst (v := zI 0) d_Ma_both_143 (by decide) ?_
      refine j_callS m_Ma_truth [.int (zI 0)] [] 0 0 0 cS_Ma_101 d_Ma_both_144 rfl rfl (Nat.le_of_ble_eq_true rfl) (Nat.succ_le_succ (Nat.zero_le _)) (Nat.le_of_ble_eq_true rfl) (Nat.zero_le _) (Nat.zero_le _) (c_Ma_truth hE ⟨by decide, by decide⟩) (fun v τ h => ?_) (fun x τ h => absurd h.1 (by simp))
      obtain ⟨e1, e2⟩ := h; cases e1; rw [e2]
      exact zj_iret d_Ma_both_147 rfl (Nat.zero_le _) (Nat.zero_le _) h
    · have h := h2 k18
      refine j_iconst (v := zI 1) d_Ma_both_139 (by decide) ?_
      refine j_goto 144 d_Ma_both_140 (by decide) ?_
      refine j_callS m_Ma_truth [.int (zI 1)] [] 0 0 0 cS_Ma_101 d_Ma_both_144 rfl rfl (Nat.le_of_ble_eq_true rfl) (Nat.succ_le_succ (Nat.zero_le _)) (Nat.le_of_ble_eq_true rfl) (Nat.zero_le _) (Nat.zero_le _) (c_Ma_truth hE ⟨by decide, by decide⟩) (fun v τ h => ?_) (fun x τ h => absurd h.1 (by simp))
      obtain ⟨e1, e2⟩ := h; cases e1; rw [e2]
      exact zj_iret d_Ma_both_147 rfl (Nat.zero_le _) (Nat.zero_le _) h
  have jg148 : q_imp (x0 = 9) (J ω m_Ma_both (d + 1) mc ms 0 0 148 [(0, .int (zI x0)), (1, .int (zI x1)), (2, .int (zI x2)), (3, .int (zI x3))] [] σ Q) := by
    intro c
    have h := g148 c
    refine j_iload_n d_Ma_both_148 1 rfl ?_
    refine j_iload_n d_Ma_both_149 2 rfl ?_
    obtain ⟨r19, h⟩ := h
    obtain ⟨r20, h⟩ := h
    obtain ⟨h1, h2⟩ := h
    refine zj_icmp_gt 157 d_Ma_both_150 (by decide) r19 r20 (fun k21 => ?_) (fun k21 => ?_)
    · have h := h1 k21
      refine j_iconst (v := zI 0) d_Ma_both_157 (by decide) ?_
      refine j_callS m_Ma_truth [.int (zI 0)] [] 0 0 0 cS_Ma_101 d_Ma_both_158 rfl rfl (Nat.le_of_ble_eq_true rfl) (Nat.succ_le_succ (Nat.zero_le _)) (Nat.le_of_ble_eq_true rfl) (Nat.zero_le _) (Nat.zero_le _) (c_Ma_truth hE ⟨by decide, by decide⟩) (fun v τ h => ?_) (fun x τ h => absurd h.1 (by simp))
      obtain ⟨e1, e2⟩ := h; cases e1; rw [e2]
      exact zj_iret d_Ma_both_161 rfl (Nat.zero_le _) (Nat.zero_le _) h
    · have h := h2 k21
      refine j_iconst (v := zI 1) d_Ma_both_153 (by decide) ?_
      refine j_goto 158 d_Ma_both_154 (by decide) ?_
      refine j_callS m_Ma_truth [.int (zI 1)] [] 0 0 0 cS_Ma_101 d_Ma_both_158 rfl rfl (Nat.le_of_ble_eq_true rfl) (Nat.succ_le_succ (Nat.zero_le _)) (Nat.le_of_ble_eq_true rfl) (Nat.zero_le _) (Nat.zero_le _) (c_Ma_truth hE ⟨by decide, by decide⟩) (fun v τ h => ?_) (fun x τ h => absurd h.1 (by simp))
      obtain ⟨e1, e2⟩ := h; cases e1; rw [e2]
      exact zj_iret d_Ma_both_161 rfl (Nat.zero_le _) (Nat.zero_le _) h
  have jg162 : q_imp (x0 = 10) (J ω m_Ma_both (d + 1) mc ms 0 0 162 [(0, .int (zI x0)), (1, .int (zI x1)), (2, .int (zI x2)), (3, .int (zI x3))] [] σ Q) := by
    intro c
    have h := g162 c
    refine j_iload_n d_Ma_both_162 1 rfl ?_
    refine j_iload_n d_Ma_both_163 2 rfl ?_
    obtain ⟨r22, h⟩ := h
    obtain ⟨r23, h⟩ := h
    obtain ⟨h1, h2⟩ := h
    refine zj_icmp_le 171 d_Ma_both_164 (by decide) r22 r23 (fun k24 => ?_) (fun k24 => ?_)
    · have h := h1 k24
      refine j_iconst (v := zI 0) d_Ma_both_171 (by decide) ?_
      refine j_callS m_Ma_truth [.int (zI 0)] [] 0 0 0 cS_Ma_101 d_Ma_both_172 rfl rfl (Nat.le_of_ble_eq_true rfl) (Nat.succ_le_succ (Nat.zero_le _)) (Nat.le_of_ble_eq_true rfl) (Nat.zero_le _) (Nat.zero_le _) (c_Ma_truth hE ⟨by decide, by decide⟩) (fun v τ h => ?_) (fun x τ h => absurd h.1 (by simp))
      obtain ⟨e1, e2⟩ := h; cases e1; rw [e2]
      exact zj_iret d_Ma_both_175 rfl (Nat.zero_le _) (Nat.zero_le _) h
    · have h := h2 k24
      refine j_iconst (v := zI 1) d_Ma_both_167 (by decide) ?_
      refine j_goto 172 d_Ma_both_168 (by decide) ?_
      refine j_callS m_Ma_truth [.int (zI 1)] [] 0 0 0 cS_Ma_101 d_Ma_both_172 rfl rfl (Nat.le_of_ble_eq_true rfl) (Nat.succ_le_succ (Nat.zero_le _)) (Nat.le_of_ble_eq_true rfl) (Nat.zero_le _) (Nat.zero_le _) (c_Ma_truth hE ⟨by decide, by decide⟩) (fun v τ h => ?_) (fun x τ h => absurd h.1 (by simp))
      obtain ⟨e1, e2⟩ := h; cases e1; rw [e2]
      exact zj_iret d_Ma_both_175 rfl (Nat.zero_le _) (Nat.zero_le _) h
  have jg176 : q_imp (x0 = 11) (J ω m_Ma_both (d + 1) mc ms 0 0 176 [(0, .int (zI x0)), (1, .int (zI x1)), (2, .int (zI x2)), (3, .int (zI x3))] [] σ Q) := by
    intro c
    have h := g176 c
    refine j_iload_n d_Ma_both_176 1 rfl ?_
    refine j_iload_n d_Ma_both_177 2 rfl ?_
    obtain ⟨r25, h⟩ := h
    obtain ⟨r26, h⟩ := h
    obtain ⟨h1, h2⟩ := h
    refine zj_icmp_lt 185 d_Ma_both_178 (by decide) r25 r26 (fun k27 => ?_) (fun k27 => ?_)
    · have h := h1 k27
      refine j_iconst (v := zI 0) d_Ma_both_185 (by decide) ?_
      refine j_callS m_Ma_truth [.int (zI 0)] [] 0 0 0 cS_Ma_101 d_Ma_both_186 rfl rfl (Nat.le_of_ble_eq_true rfl) (Nat.succ_le_succ (Nat.zero_le _)) (Nat.le_of_ble_eq_true rfl) (Nat.zero_le _) (Nat.zero_le _) (c_Ma_truth hE ⟨by decide, by decide⟩) (fun v τ h => ?_) (fun x τ h => absurd h.1 (by simp))
      obtain ⟨e1, e2⟩ := h; cases e1; rw [e2]
      exact zj_iret d_Ma_both_189 rfl (Nat.zero_le _) (Nat.zero_le _) h
    · have h := h2 k27
      refine j_iconst (v := zI 1) d_Ma_both_181 (by decide) ?_
      refine j_goto 186 d_Ma_both_182 (by decide) ?_
      refine j_callS m_Ma_truth [.int (zI 1)] [] 0 0 0 cS_Ma_101 d_Ma_both_186 rfl rfl (Nat.le_of_ble_eq_true rfl) (Nat.succ_le_succ (Nat.zero_le _)) (Nat.le_of_ble_eq_true rfl) (Nat.zero_le _) (Nat.zero_le _) (c_Ma_truth hE ⟨by decide, by decide⟩) (fun v τ h => ?_) (fun x τ h => absurd h.1 (by simp))
      obtain ⟨e1, e2⟩ := h; cases e1; rw [e2]
      exact zj_iret d_Ma_both_189 rfl (Nat.zero_le _) (Nat.zero_le _) h
  have jgD : q_imp (x0 ≠ 1 ∧ x0 ≠ 2 ∧ x0 ≠ 3 ∧ x0 ≠ 4 ∧ x0 ≠ 5 ∧ x0 ≠ 6 ∧ x0 ≠ 7 ∧ x0 ≠ 8 ∧ x0 ≠ 9 ∧ x0 ≠ 10 ∧ x0 ≠ 11) (J ω m_Ma_both (d + 1) mc ms 0 0 190 [(0, .int (zI x0)), (1, .int (zI x1)), (2, .int (zI x2)), (3, .int (zI x3))] [] σ Q) := by
    intro c
    have h := gD c
    refine j_iload_n d_Ma_both_190 0 rfl ?_
    refine j_iload_n d_Ma_both_191 1 rfl ?_
    refine j_iload_n d_Ma_both_192 2 rfl ?_
    refine j_iload_n d_Ma_both_193 3 rfl ?_
    refine j_callS m_Ma_arithmetic [.int (zI x0), .int (zI x1), .int (zI x2), .int (zI x3)] [] d 0 0 cS_Ma_105 d_Ma_both_194 rfl rfl (Nat.le_of_ble_eq_true rfl) (Nat.le_refl _) (Nat.le_of_ble_eq_true rfl) (Nat.zero_le _) (Nat.zero_le _) h (fun v τ h => ?_) (fun x τ h => ?_)
    · obtain ⟨v, hv, e1, h⟩ := h; cases e1; exact j_sel [] rfl h
    · obtain ⟨v, hv, e1, h⟩ := h; cases e1
  by_cases cs1 : x0 = 1
  · exact j_topE (v := zI 1) (by rw [cs1]) (j_tabIn 60 d_Ma_both_1 (by decide) (by decide) rfl (by decide) (jg60 cs1))
  by_cases cs2 : x0 = 2
  · exact j_topE (v := zI 2) (by rw [cs2]) (j_tabIn 77 d_Ma_both_1 (by decide) (by decide) rfl (by decide) (jg77 cs2))
  by_cases cs3 : x0 = 3
  · exact j_topE (v := zI 3) (by rw [cs3]) (j_tabIn 94 d_Ma_both_1 (by decide) (by decide) rfl (by decide) (jg94 cs3))
  by_cases cs4 : x0 = 4
  · exact j_topE (v := zI 4) (by rw [cs4]) (j_tabIn 98 d_Ma_both_1 (by decide) (by decide) rfl (by decide) (jg98 cs4))
  by_cases cs5 : x0 = 5
  · exact j_topE (v := zI 5) (by rw [cs5]) (j_tabIn 102 d_Ma_both_1 (by decide) (by decide) rfl (by decide) (jg102 cs5))
  by_cases cs6 : x0 = 6
  · exact j_topE (v := zI 6) (by rw [cs6]) (j_tabIn 106 d_Ma_both_1 (by decide) (by decide) rfl (by decide) (jg106 cs6))
  by_cases cs7 : x0 = 7
  · exact j_topE (v := zI 7) (by rw [cs7]) (j_tabIn 120 d_Ma_both_1 (by decide) (by decide) rfl (by decide) (jg120 cs7))
  by_cases cs8 : x0 = 8
  · exact j_topE (v := zI 8) (by rw [cs8]) (j_tabIn 134 d_Ma_both_1 (by decide) (by decide) rfl (by decide) (jg134 cs8))
  by_cases cs9 : x0 = 9
  · exact j_topE (v := zI 9) (by rw [cs9]) (j_tabIn 148 d_Ma_both_1 (by decide) (by decide) rfl (by decide) (jg148 cs9))
  by_cases cs10 : x0 = 10
  · exact j_topE (v := zI 10) (by rw [cs10]) (j_tabIn 162 d_Ma_both_1 (by decide) (by decide) rfl (by decide) (jg162 cs10))
  by_cases cs11 : x0 = 11
  · exact j_topE (v := zI 11) (by rw [cs11]) (j_tabIn 176 d_Ma_both_1 (by decide) (by decide) rfl (by decide) (jg176 cs11))
  exact j_tabOut 190 d_Ma_both_1 (by rw [zI_toInt r1]; exact o_Ma_both_1 cs1 cs2 cs3 cs4 cs5 cs6 cs7 cs8 cs9 cs10 cs11) (by decide) (jgD ⟨cs1, cs2, cs3, cs4, cs5, cs6, cs7, cs8, cs9, cs10, cs11⟩)
set_option maxHeartbeats 2000000 in
theorem b_Ma_both_197 {ω : q_W} {σ : q_H} {Q : q_R → q_H → Prop} {d mc ms : Nat} {y0 : Int}  (hE : q_E σ) (h : (Q (.inl (some (.int (zI y0)))) σ)) : J ω m_Ma_both (d + 1) mc ms 0 0 197 [] [.int (zI y0)] σ Q := by
  exact zj_iret d_Ma_both_197 rfl (Nat.zero_le _) (Nat.zero_le _) h
