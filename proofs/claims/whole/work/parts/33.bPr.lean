/-! stretches of bytecode as conditions: Pr -/
theorem d_Pr_find_0 : decode m_Pr_find.2.1 0 = .ok (.iconst 0, 1) := by decide +kernel
theorem d_Pr_find_1 : decode m_Pr_find.2.1 1 = .ok (.istore_n 3, 1) := by decide +kernel
theorem d_Pr_find_2 : decode m_Pr_find.2.1 2 = .ok (.iload_n 3, 1) := by decide +kernel
theorem d_Pr_find_3 : decode m_Pr_find.2.1 3 = .ok (.aload_n 0, 1) := by decide +kernel
theorem d_Pr_find_4 : decode m_Pr_find.2.1 4 = .ok (.getfield 49, 3) := by decide +kernel
theorem d_Pr_find_7 : decode m_Pr_find.2.1 7 = .ok (.if_icmp .ge 22, 3) := by decide +kernel
theorem d_Pr_find_10 : decode m_Pr_find.2.1 10 = .ok (.aload_n 0, 1) := by decide +kernel
theorem d_Pr_find_11 : decode m_Pr_find.2.1 11 = .ok (.getfield 15, 3) := by decide +kernel
theorem d_Pr_find_14 : decode m_Pr_find.2.1 14 = .ok (.iload_n 3, 1) := by decide +kernel
theorem d_Pr_find_15 : decode m_Pr_find.2.1 15 = .ok (.laload, 1) := by decide +kernel
theorem d_Pr_find_16 : decode m_Pr_find.2.1 16 = .ok (.lload_n 1, 1) := by decide +kernel
theorem d_Pr_find_17 : decode m_Pr_find.2.1 17 = .ok (.lcmp, 1) := by decide +kernel
theorem d_Pr_find_18 : decode m_Pr_find.2.1 18 = .ok (.ifCond .ne 5, 3) := by decide +kernel
theorem d_Pr_find_21 : decode m_Pr_find.2.1 21 = .ok (.iload_n 3, 1) := by decide +kernel
theorem d_Pr_find_22 : decode m_Pr_find.2.1 22 = .ok (.ireturn, 1) := by decide +kernel
theorem d_Pr_find_23 : decode m_Pr_find.2.1 23 = .ok (.iinc 3 1, 3) := by decide +kernel
theorem d_Pr_find_26 : decode m_Pr_find.2.1 26 = .ok (.goto (-24), 3) := by decide +kernel
theorem d_Pr_find_29 : decode m_Pr_find.2.1 29 = .ok (.iconst 0, 1) := by decide +kernel
theorem d_Pr_find_30 : decode m_Pr_find.2.1 30 = .ok (.istore_n 3, 1) := by decide +kernel
theorem d_Pr_find_31 : decode m_Pr_find.2.1 31 = .ok (.iload_n 3, 1) := by decide +kernel
theorem d_Pr_find_32 : decode m_Pr_find.2.1 32 = .ok (.aload_n 0, 1) := by decide +kernel
theorem d_Pr_find_33 : decode m_Pr_find.2.1 33 = .ok (.getfield 56, 3) := by decide +kernel
theorem d_Pr_find_36 : decode m_Pr_find.2.1 36 = .ok (.if_icmp .ge 25, 3) := by decide +kernel
theorem d_Pr_find_39 : decode m_Pr_find.2.1 39 = .ok (.aload_n 0, 1) := by decide +kernel
theorem d_Pr_find_40 : decode m_Pr_find.2.1 40 = .ok (.getfield 22, 3) := by decide +kernel
theorem d_Pr_find_43 : decode m_Pr_find.2.1 43 = .ok (.iload_n 3, 1) := by decide +kernel
theorem d_Pr_find_44 : decode m_Pr_find.2.1 44 = .ok (.laload, 1) := by decide +kernel
theorem d_Pr_find_45 : decode m_Pr_find.2.1 45 = .ok (.lload_n 1, 1) := by decide +kernel
theorem d_Pr_find_46 : decode m_Pr_find.2.1 46 = .ok (.lcmp, 1) := by decide +kernel
theorem d_Pr_find_47 : decode m_Pr_find.2.1 47 = .ok (.ifCond .ne 8, 3) := by decide +kernel
theorem d_Pr_find_50 : decode m_Pr_find.2.1 50 = .ok (.bipush 12, 2) := by decide +kernel
theorem d_Pr_find_52 : decode m_Pr_find.2.1 52 = .ok (.iload_n 3, 1) := by decide +kernel
theorem d_Pr_find_53 : decode m_Pr_find.2.1 53 = .ok (.iadd, 1) := by decide +kernel
theorem d_Pr_find_54 : decode m_Pr_find.2.1 54 = .ok (.ireturn, 1) := by decide +kernel
theorem d_Pr_find_55 : decode m_Pr_find.2.1 55 = .ok (.iinc 3 1, 3) := by decide +kernel
theorem d_Pr_find_58 : decode m_Pr_find.2.1 58 = .ok (.goto (-27), 3) := by decide +kernel
theorem d_Pr_find_61 : decode m_Pr_find.2.1 61 = .ok (.iconst (-1), 1) := by decide +kernel
theorem d_Pr_find_62 : decode m_Pr_find.2.1 62 = .ok (.ireturn, 1) := by decide +kernel
theorem d_Pr_note_0 : decode m_Pr_note.2.1 0 = .ok (.aload_n 0, 1) := by decide +kernel
theorem d_Pr_note_1 : decode m_Pr_note.2.1 1 = .ok (.getfield 65, 3) := by decide +kernel
theorem d_Pr_note_4 : decode m_Pr_note.2.1 4 = .ok (.ifCond .ne 13, 3) := by decide +kernel
theorem d_Pr_note_7 : decode m_Pr_note.2.1 7 = .ok (.aload_n 0, 1) := by decide +kernel
theorem d_Pr_note_8 : decode m_Pr_note.2.1 8 = .ok (.iload_n 1, 1) := by decide +kernel
theorem d_Pr_note_9 : decode m_Pr_note.2.1 9 = .ok (.putfield 65, 3) := by decide +kernel
theorem d_Pr_note_12 : decode m_Pr_note.2.1 12 = .ok (.aload_n 0, 1) := by decide +kernel
theorem d_Pr_note_13 : decode m_Pr_note.2.1 13 = .ok (.iload_n 2, 1) := by decide +kernel
theorem d_Pr_note_14 : decode m_Pr_note.2.1 14 = .ok (.putfield 68, 3) := by decide +kernel
theorem d_Pr_note_17 : decode m_Pr_note.2.1 17 = .ok (.return_, 1) := by decide +kernel
theorem d_Pr_addInput_0 : decode m_Pr_addInput.2.1 0 = .ok (.aload_n 0, 1) := by decide +kernel
theorem d_Pr_addInput_1 : decode m_Pr_addInput.2.1 1 = .ok (.getfield 53, 3) := by decide +kernel
theorem d_Pr_addInput_4 : decode m_Pr_addInput.2.1 4 = .ok (.iload_n 3, 1) := by decide +kernel
theorem d_Pr_addInput_5 : decode m_Pr_addInput.2.1 5 = .ok (.iadd, 1) := by decide +kernel
theorem d_Pr_addInput_6 : decode m_Pr_addInput.2.1 6 = .ok (.bipush 12, 2) := by decide +kernel
theorem d_Pr_addInput_8 : decode m_Pr_addInput.2.1 8 = .ok (.if_icmp .le 5, 3) := by decide +kernel
theorem d_Pr_addInput_11 : decode m_Pr_addInput.2.1 11 = .ok (.iconst 0, 1) := by decide +kernel
theorem d_Pr_addInput_12 : decode m_Pr_addInput.2.1 12 = .ok (.ireturn, 1) := by decide +kernel
theorem d_Pr_addInput_13 : decode m_Pr_addInput.2.1 13 = .ok (.aload_n 0, 1) := by decide +kernel
theorem d_Pr_addInput_14 : decode m_Pr_addInput.2.1 14 = .ok (.getfield 15, 3) := by decide +kernel
theorem d_Pr_addInput_17 : decode m_Pr_addInput.2.1 17 = .ok (.aload_n 0, 1) := by decide +kernel
theorem d_Pr_addInput_18 : decode m_Pr_addInput.2.1 18 = .ok (.getfield 49, 3) := by decide +kernel
theorem d_Pr_addInput_21 : decode m_Pr_addInput.2.1 21 = .ok (.lload_n 1, 1) := by decide +kernel
theorem d_Pr_addInput_22 : decode m_Pr_addInput.2.1 22 = .ok (.lastore, 1) := by decide +kernel
theorem d_Pr_addInput_23 : decode m_Pr_addInput.2.1 23 = .ok (.aload_n 0, 1) := by decide +kernel
theorem d_Pr_addInput_24 : decode m_Pr_addInput.2.1 24 = .ok (.getfield 9, 3) := by decide +kernel
theorem d_Pr_addInput_27 : decode m_Pr_addInput.2.1 27 = .ok (.aload_n 0, 1) := by decide +kernel
theorem d_Pr_addInput_28 : decode m_Pr_addInput.2.1 28 = .ok (.getfield 49, 3) := by decide +kernel
theorem d_Pr_addInput_31 : decode m_Pr_addInput.2.1 31 = .ok (.iload_n 3, 1) := by decide +kernel
theorem d_Pr_addInput_32 : decode m_Pr_addInput.2.1 32 = .ok (.iastore, 1) := by decide +kernel
theorem d_Pr_addInput_33 : decode m_Pr_addInput.2.1 33 = .ok (.aload_n 0, 1) := by decide +kernel
theorem d_Pr_addInput_34 : decode m_Pr_addInput.2.1 34 = .ok (.dup, 1) := by decide +kernel
theorem d_Pr_addInput_35 : decode m_Pr_addInput.2.1 35 = .ok (.getfield 49, 3) := by decide +kernel
theorem d_Pr_addInput_38 : decode m_Pr_addInput.2.1 38 = .ok (.iconst 1, 1) := by decide +kernel
theorem d_Pr_addInput_39 : decode m_Pr_addInput.2.1 39 = .ok (.iadd, 1) := by decide +kernel
theorem d_Pr_addInput_40 : decode m_Pr_addInput.2.1 40 = .ok (.putfield 49, 3) := by decide +kernel
theorem d_Pr_addInput_43 : decode m_Pr_addInput.2.1 43 = .ok (.aload_n 0, 1) := by decide +kernel
theorem d_Pr_addInput_44 : decode m_Pr_addInput.2.1 44 = .ok (.dup, 1) := by decide +kernel
theorem d_Pr_addInput_45 : decode m_Pr_addInput.2.1 45 = .ok (.getfield 53, 3) := by decide +kernel
theorem d_Pr_addInput_48 : decode m_Pr_addInput.2.1 48 = .ok (.iload_n 3, 1) := by decide +kernel
theorem d_Pr_addInput_49 : decode m_Pr_addInput.2.1 49 = .ok (.iadd, 1) := by decide +kernel
theorem d_Pr_addInput_50 : decode m_Pr_addInput.2.1 50 = .ok (.putfield 53, 3) := by decide +kernel
theorem d_Pr_addInput_53 : decode m_Pr_addInput.2.1 53 = .ok (.iconst 1, 1) := by decide +kernel
theorem d_Pr_addInput_54 : decode m_Pr_addInput.2.1 54 = .ok (.ireturn, 1) := by decide +kernel
theorem d_Pr_addVariable_0 : decode m_Pr_addVariable.2.1 0 = .ok (.aload_n 0, 1) := by decide +kernel
theorem d_Pr_addVariable_1 : decode m_Pr_addVariable.2.1 1 = .ok (.getfield 56, 3) := by decide +kernel
theorem d_Pr_addVariable_4 : decode m_Pr_addVariable.2.1 4 = .ok (.bipush 12, 2) := by decide +kernel
theorem d_Pr_addVariable_6 : decode m_Pr_addVariable.2.1 6 = .ok (.if_icmp .lt 5, 3) := by decide +kernel
theorem d_Pr_addVariable_9 : decode m_Pr_addVariable.2.1 9 = .ok (.iconst 0, 1) := by decide +kernel
theorem d_Pr_addVariable_10 : decode m_Pr_addVariable.2.1 10 = .ok (.ireturn, 1) := by decide +kernel
theorem d_Pr_addVariable_11 : decode m_Pr_addVariable.2.1 11 = .ok (.aload_n 0, 1) := by decide +kernel
theorem d_Pr_addVariable_12 : decode m_Pr_addVariable.2.1 12 = .ok (.getfield 22, 3) := by decide +kernel
theorem d_Pr_addVariable_15 : decode m_Pr_addVariable.2.1 15 = .ok (.aload_n 0, 1) := by decide +kernel
theorem d_Pr_addVariable_16 : decode m_Pr_addVariable.2.1 16 = .ok (.getfield 56, 3) := by decide +kernel
theorem d_Pr_addVariable_19 : decode m_Pr_addVariable.2.1 19 = .ok (.lload_n 1, 1) := by decide +kernel
theorem d_Pr_addVariable_20 : decode m_Pr_addVariable.2.1 20 = .ok (.lastore, 1) := by decide +kernel
theorem d_Pr_addVariable_21 : decode m_Pr_addVariable.2.1 21 = .ok (.aload_n 0, 1) := by decide +kernel
theorem d_Pr_addVariable_22 : decode m_Pr_addVariable.2.1 22 = .ok (.getfield 19, 3) := by decide +kernel
theorem d_Pr_addVariable_25 : decode m_Pr_addVariable.2.1 25 = .ok (.aload_n 0, 1) := by decide +kernel
theorem d_Pr_addVariable_26 : decode m_Pr_addVariable.2.1 26 = .ok (.getfield 56, 3) := by decide +kernel
theorem d_Pr_addVariable_29 : decode m_Pr_addVariable.2.1 29 = .ok (.iload_n 3, 1) := by decide +kernel
theorem d_Pr_addVariable_30 : decode m_Pr_addVariable.2.1 30 = .ok (.iastore, 1) := by decide +kernel
theorem d_Pr_addVariable_31 : decode m_Pr_addVariable.2.1 31 = .ok (.aload_n 0, 1) := by decide +kernel
theorem d_Pr_addVariable_32 : decode m_Pr_addVariable.2.1 32 = .ok (.dup, 1) := by decide +kernel
theorem d_Pr_addVariable_33 : decode m_Pr_addVariable.2.1 33 = .ok (.getfield 56, 3) := by decide +kernel
theorem d_Pr_addVariable_36 : decode m_Pr_addVariable.2.1 36 = .ok (.iconst 1, 1) := by decide +kernel
theorem d_Pr_addVariable_37 : decode m_Pr_addVariable.2.1 37 = .ok (.iadd, 1) := by decide +kernel
theorem d_Pr_addVariable_38 : decode m_Pr_addVariable.2.1 38 = .ok (.putfield 56, 3) := by decide +kernel
theorem d_Pr_addVariable_41 : decode m_Pr_addVariable.2.1 41 = .ok (.iconst 1, 1) := by decide +kernel
theorem d_Pr_addVariable_42 : decode m_Pr_addVariable.2.1 42 = .ok (.ireturn, 1) := by decide +kernel
theorem d_Pr_addStep_0 : decode m_Pr_addStep.2.1 0 = .ok (.aload_n 0, 1) := by decide +kernel
theorem d_Pr_addStep_1 : decode m_Pr_addStep.2.1 1 = .ok (.getfield 71, 3) := by decide +kernel
theorem d_Pr_addStep_4 : decode m_Pr_addStep.2.1 4 = .ok (.sipush 2048, 3) := by decide +kernel
theorem d_Pr_addStep_7 : decode m_Pr_addStep.2.1 7 = .ok (.if_icmp .lt 7, 3) := by decide +kernel
theorem d_Pr_addStep_10 : decode m_Pr_addStep.2.1 10 = .ok (.sipush 2047, 3) := by decide +kernel
theorem d_Pr_addStep_13 : decode m_Pr_addStep.2.1 13 = .ok (.ireturn, 1) := by decide +kernel
theorem d_Pr_addStep_14 : decode m_Pr_addStep.2.1 14 = .ok (.aload_n 0, 1) := by decide +kernel
theorem d_Pr_addStep_15 : decode m_Pr_addStep.2.1 15 = .ok (.getfield 71, 3) := by decide +kernel
theorem d_Pr_addStep_18 : decode m_Pr_addStep.2.1 18 = .ok (.istore 4, 2) := by decide +kernel
theorem d_Pr_addStep_20 : decode m_Pr_addStep.2.1 20 = .ok (.aload_n 0, 1) := by decide +kernel
theorem d_Pr_addStep_21 : decode m_Pr_addStep.2.1 21 = .ok (.getfield 25, 3) := by decide +kernel
theorem d_Pr_addStep_24 : decode m_Pr_addStep.2.1 24 = .ok (.iload 4, 2) := by decide +kernel
theorem d_Pr_addStep_26 : decode m_Pr_addStep.2.1 26 = .ok (.iload_n 1, 1) := by decide +kernel
theorem d_Pr_addStep_27 : decode m_Pr_addStep.2.1 27 = .ok (.iastore, 1) := by decide +kernel
theorem d_Pr_addStep_28 : decode m_Pr_addStep.2.1 28 = .ok (.aload_n 0, 1) := by decide +kernel
theorem d_Pr_addStep_29 : decode m_Pr_addStep.2.1 29 = .ok (.getfield 28, 3) := by decide +kernel
theorem d_Pr_addStep_32 : decode m_Pr_addStep.2.1 32 = .ok (.iload 4, 2) := by decide +kernel
theorem d_Pr_addStep_34 : decode m_Pr_addStep.2.1 34 = .ok (.iload_n 2, 1) := by decide +kernel
theorem d_Pr_addStep_35 : decode m_Pr_addStep.2.1 35 = .ok (.iastore, 1) := by decide +kernel
theorem d_Pr_addStep_36 : decode m_Pr_addStep.2.1 36 = .ok (.aload_n 0, 1) := by decide +kernel
theorem d_Pr_addStep_37 : decode m_Pr_addStep.2.1 37 = .ok (.getfield 31, 3) := by decide +kernel
theorem d_Pr_addStep_40 : decode m_Pr_addStep.2.1 40 = .ok (.iload 4, 2) := by decide +kernel
theorem d_Pr_addStep_42 : decode m_Pr_addStep.2.1 42 = .ok (.iload_n 3, 1) := by decide +kernel
theorem d_Pr_addStep_43 : decode m_Pr_addStep.2.1 43 = .ok (.iastore, 1) := by decide +kernel
theorem d_Pr_addStep_44 : decode m_Pr_addStep.2.1 44 = .ok (.aload_n 0, 1) := by decide +kernel
theorem d_Pr_addStep_45 : decode m_Pr_addStep.2.1 45 = .ok (.getfield 34, 3) := by decide +kernel
theorem d_Pr_addStep_48 : decode m_Pr_addStep.2.1 48 = .ok (.iload 4, 2) := by decide +kernel
theorem d_Pr_addStep_50 : decode m_Pr_addStep.2.1 50 = .ok (.aload_n 0, 1) := by decide +kernel
theorem d_Pr_addStep_51 : decode m_Pr_addStep.2.1 51 = .ok (.getfield 74, 3) := by decide +kernel
theorem d_Pr_addStep_54 : decode m_Pr_addStep.2.1 54 = .ok (.iastore, 1) := by decide +kernel
theorem d_Pr_addStep_55 : decode m_Pr_addStep.2.1 55 = .ok (.aload_n 0, 1) := by decide +kernel
theorem d_Pr_addStep_56 : decode m_Pr_addStep.2.1 56 = .ok (.getfield 37, 3) := by decide +kernel
theorem d_Pr_addStep_59 : decode m_Pr_addStep.2.1 59 = .ok (.iload 4, 2) := by decide +kernel
theorem d_Pr_addStep_61 : decode m_Pr_addStep.2.1 61 = .ok (.iconst 0, 1) := by decide +kernel
theorem d_Pr_addStep_62 : decode m_Pr_addStep.2.1 62 = .ok (.iastore, 1) := by decide +kernel
theorem d_Pr_addStep_63 : decode m_Pr_addStep.2.1 63 = .ok (.aload_n 0, 1) := by decide +kernel
theorem d_Pr_addStep_64 : decode m_Pr_addStep.2.1 64 = .ok (.dup, 1) := by decide +kernel
theorem d_Pr_addStep_65 : decode m_Pr_addStep.2.1 65 = .ok (.getfield 71, 3) := by decide +kernel
theorem d_Pr_addStep_68 : decode m_Pr_addStep.2.1 68 = .ok (.iconst 1, 1) := by decide +kernel
theorem d_Pr_addStep_69 : decode m_Pr_addStep.2.1 69 = .ok (.iadd, 1) := by decide +kernel
theorem d_Pr_addStep_70 : decode m_Pr_addStep.2.1 70 = .ok (.putfield 71, 3) := by decide +kernel
theorem d_Pr_addStep_73 : decode m_Pr_addStep.2.1 73 = .ok (.iload 4, 2) := by decide +kernel
theorem d_Pr_addStep_75 : decode m_Pr_addStep.2.1 75 = .ok (.ireturn, 1) := by decide +kernel
theorem f_Pr_49 : q_F "ProofHall$Program" 49 2 0 "I" := ⟨_, _, _, rfl, by decide, rfl, Or.inl (List.mem_of_getElem? (i := 195) (by decide +kernel))⟩
theorem f_Pr_15 : q_FR "ProofHall$Program" 15 2 3 := ⟨"[J", by decide, ⟨_, _, _, rfl, by decide, rfl, Or.inl (List.mem_of_getElem? (i := 205) (by decide +kernel))⟩⟩
theorem f_Pr_56 : q_F "ProofHall$Program" 56 2 4 "I" := ⟨_, _, _, rfl, by decide, rfl, Or.inl (List.mem_of_getElem? (i := 206) (by decide +kernel))⟩
theorem f_Pr_22 : q_FR "ProofHall$Program" 22 2 6 := ⟨"[J", by decide, ⟨_, _, _, rfl, by decide, rfl, Or.inl (List.mem_of_getElem? (i := 215) (by decide +kernel))⟩⟩
theorem f_Pr_65 : q_F "ProofHall$Program" 65 2 9 "I" := ⟨_, _, _, rfl, by decide, rfl, Or.inl (List.mem_of_getElem? (i := 223) (by decide +kernel))⟩
theorem f_Pr_53 : q_F "ProofHall$Program" 53 2 1 "I" := ⟨_, _, _, rfl, by decide, rfl, Or.inl (List.mem_of_getElem? (i := 199) (by decide +kernel))⟩
theorem f_Pr_9 : q_FR "ProofHall$Program" 9 2 2 := ⟨"[I", by decide, ⟨_, _, _, rfl, by decide, rfl, Or.inl (List.mem_of_getElem? (i := 200) (by decide +kernel))⟩⟩
theorem f_Pr_19 : q_FR "ProofHall$Program" 19 2 5 := ⟨"[I", by decide, ⟨_, _, _, rfl, by decide, rfl, Or.inl (List.mem_of_getElem? (i := 210) (by decide +kernel))⟩⟩
theorem f_Pr_71 : q_F "ProofHall$Program" 71 2 11 "I" := ⟨_, _, _, rfl, by decide, rfl, Or.inl (List.mem_of_getElem? (i := 229) (by decide +kernel))⟩
theorem f_Pr_25 : q_FR "ProofHall$Program" 25 2 12 := ⟨"[I", by decide, ⟨_, _, _, rfl, by decide, rfl, Or.inl (List.mem_of_getElem? (i := 233) (by decide +kernel))⟩⟩
theorem f_Pr_28 : q_FR "ProofHall$Program" 28 2 13 := ⟨"[I", by decide, ⟨_, _, _, rfl, by decide, rfl, Or.inl (List.mem_of_getElem? (i := 236) (by decide +kernel))⟩⟩
theorem f_Pr_31 : q_FR "ProofHall$Program" 31 2 14 := ⟨"[I", by decide, ⟨_, _, _, rfl, by decide, rfl, Or.inl (List.mem_of_getElem? (i := 239) (by decide +kernel))⟩⟩
theorem f_Pr_34 : q_FR "ProofHall$Program" 34 2 15 := ⟨"[I", by decide, ⟨_, _, _, rfl, by decide, rfl, Or.inl (List.mem_of_getElem? (i := 242) (by decide +kernel))⟩⟩
theorem f_Pr_74 : q_F "ProofHall$Program" 74 2 17 "I" := ⟨_, _, _, rfl, by decide, rfl, Or.inl (List.mem_of_getElem? (i := 249) (by decide +kernel))⟩
theorem f_Pr_37 : q_FR "ProofHall$Program" 37 2 16 := ⟨"[I", by decide, ⟨_, _, _, rfl, by decide, rfl, Or.inl (List.mem_of_getElem? (i := 245) (by decide +kernel))⟩⟩
set_option maxHeartbeats 2000000 in
theorem b_Pr_clear_0 {ω : q_W} {σ : q_H} {Q : q_R → q_H → Prop} {d mc ms : Nat}  {p : Nat} (hp : p = 16 ∨ p = 29) (hE : q_E σ) (h : (Q (.inl none) (zs (zs (zs (zs (zs (zs (zs (zs (zs σ p 0 0) p 1 0) p 4 0) p 7 0) p 8 0) p 9 0) p 10 (-1)) p 11 0) p 17 0))) : J ω m_Pr_clear d mc ms 0 0 0 [(0, .ref p)] [] σ Q := by
  refine j_aload_n d_Pr_clear_0 0 rfl ?_
  refine j_iconst (v := zI 0) d_Pr_clear_1 (by decide) ?_
  refine zj_putI (g_Pr_49 _) d_Pr_clear_2 (tY_p_0 hE hp) (q_okE hE (by omega)) ?_
  refine j_aload_n d_Pr_clear_5 0 rfl ?_
  refine j_iconst (v := zI 0) d_Pr_clear_6 (by decide) ?_
  refine zj_putI (g_Pr_53 _) d_Pr_clear_7 (tY_p_0 (zs_E hE) hp) (q_okE (zs_E hE) (by omega)) ?_
  refine j_aload_n d_Pr_clear_10 0 rfl ?_
  refine j_iconst (v := zI 0) d_Pr_clear_11 (by decide) ?_
  refine zj_putI (g_Pr_56 _) d_Pr_clear_12 (tY_p_0 (zs_E (zs_E hE)) hp) (q_okE (zs_E (zs_E hE)) (by omega)) ?_
  refine j_aload_n d_Pr_clear_15 0 rfl ?_
  refine j_iconst (v := zI 0) d_Pr_clear_16 (by decide) ?_
  refine zj_putI (g_Pr_59 _) d_Pr_clear_17 (tY_p_0 (zs_E (zs_E (zs_E hE))) hp) (q_okE (zs_E (zs_E (zs_E hE))) (by omega)) ?_
  refine j_aload_n d_Pr_clear_20 0 rfl ?_
  refine j_iconst (v := zI 0) d_Pr_clear_21 (by decide) ?_
  refine zj_putI (g_Pr_62 _) d_Pr_clear_22 (tY_p_0 (zs_E (zs_E (zs_E (zs_E hE)))) hp) (q_okE (zs_E (zs_E (zs_E (zs_E hE)))) (by omega)) ?_
  refine j_aload_n d_Pr_clear_25 0 rfl ?_
  refine j_iconst (v := zI 0) d_Pr_clear_26 (by decide) ?_
  refine zj_putI (g_Pr_65 _) d_Pr_clear_27 (tY_p_0 (zs_E (zs_E (zs_E (zs_E (zs_E hE))))) hp) (q_okE (zs_E (zs_E (zs_E (zs_E (zs_E hE))))) (by omega)) ?_
  refine j_aload_n d_Pr_clear_30 0 rfl ?_
  refine j_iconst (v := zI (-1)) d_Pr_clear_31 (by decide) ?_
  refine zj_putI (g_Pr_68 _) d_Pr_clear_32 (tY_p_0 (zs_E (zs_E (zs_E (zs_E (zs_E (zs_E hE)))))) hp) (q_okE (zs_E (zs_E (zs_E (zs_E (zs_E (zs_E hE)))))) (by omega)) ?_
  refine j_aload_n d_Pr_clear_35 0 rfl ?_
  refine j_iconst (v := zI 0) d_Pr_clear_36 (by decide) ?_
  refine zj_putI (g_Pr_71 _) d_Pr_clear_37 (tY_p_0 (zs_E (zs_E (zs_E (zs_E (zs_E (zs_E (zs_E hE))))))) hp) (q_okE (zs_E (zs_E (zs_E (zs_E (zs_E (zs_E (zs_E hE))))))) (by omega)) ?_
  refine j_aload_n d_Pr_clear_40 0 rfl ?_
  refine j_iconst (v := zI 0) d_Pr_clear_41 (by decide) ?_
  refine zj_putI (g_Pr_74 _) d_Pr_clear_42 (tY_p_0 (zs_E (zs_E (zs_E (zs_E (zs_E (zs_E (zs_E (zs_E hE)))))))) hp) (q_okE (zs_E (zs_E (zs_E (zs_E (zs_E (zs_E (zs_E (zs_E hE)))))))) (by omega)) ?_
  exact j_vret d_Pr_clear_45 rfl (Nat.zero_le _) (Nat.zero_le _) h
set_option maxHeartbeats 2000000 in
theorem b_Pr_find_0 {ω : q_W} {σ : q_H} {Q : q_R → q_H → Prop} {d mc ms : Nat} {x1 : Int64} {p : Nat} (hp : p = 16 ∨ p = 29) (hE : q_E σ) (h : (J ω m_Pr_find d mc ms 0 0 2 [(0, .ref p), (1, .long x1), (3, .int (zI 0))] [] σ Q)) : J ω m_Pr_find d mc ms 0 0 0 [(0, .ref p), (1, .long x1)] [] σ Q := by
  refine j_iconst (v := zI 0) d_Pr_find_0 (by decide) ?_
  refine j_istore_n (L' := [(3, .int (zI 0)), (0, .ref p), (1, .long x1)]) d_Pr_find_1 (by decide) rfl ?_
  exact j_sel [1, 2, 0] rfl h
set_option maxHeartbeats 2000000 in
theorem b_Pr_find_2 {ω : q_W} {σ : q_H} {Q : q_R → q_H → Prop} {d mc ms : Nat} {x1 : Int64} {x3 : Int} {p : Nat} (hp : p = 16 ∨ p = 29) (hE : q_E σ) (h : inR x3 ∧ q_imp (x3 ≥ (z σ p 0)) ((J ω m_Pr_find d mc ms 0 0 31 [(0, .ref p), (1, .long x1), (3, .int (zI 0))] [] σ Q)) ∧ q_imp (x3 < (z σ p 0)) ((0 ≤ x3 ∧ x3 < 12) ∧ q_imp ((q_l σ (p + 2) x3.toNat) ≠ x1) ((J ω m_Pr_find d mc ms 0 0 2 [(0, .ref p), (1, .long x1), (3, .int (zI (x3 + 1)))] [] σ Q)) ∧ q_imp ((q_l σ (p + 2) x3.toNat) = x1) ((Q (.inl (some (.int (zI x3)))) σ)))) : J ω m_Pr_find d mc ms 0 0 2 [(0, .ref p), (1, .long x1), (3, .int (zI x3))] [] σ Q := by
  refine j_iload_n d_Pr_find_2 2 rfl ?_
  refine j_aload_n d_Pr_find_3 0 rfl ?_
  refine zj_getI (z σ p 0) f_Pr_49 d_Pr_find_4 (tY_p_0 hE hp) (q_okE hE (by omega)) (q_z _ _ _) ?_
  obtain ⟨r1, h⟩ := h
  obtain ⟨h1, h2⟩ := h
  refine zj_icmp_ge 29 d_Pr_find_7 (by decide) r1 (z_R _ _ _) (fun k2 => ?_) (fun k2 => ?_)
  · have h := h1 k2
    refine j_iconst (v := zI 0) d_Pr_find_29 (by decide) ?_
    refine j_istore_n (L' := [(3, .int (zI 0)), (0, .ref p), (1, .long x1)]) d_Pr_find_30 (by decide) rfl ?_
    exact j_sel [1, 2, 0] rfl h
  · have h := h2 k2
    refine j_aload_n d_Pr_find_10 0 rfl ?_
    refine j_getR (p + 2) f_Pr_15 d_Pr_find_11 (tY_p_0 hE hp) (q_okE hE (by omega)) (rY_p_3 hE hp) (by omega) ?_
    refine j_iload_n d_Pr_find_14 2 rfl ?_
    obtain ⟨c3, h⟩ := h
    refine zj_lald (q_l σ (p + 2) x3.toNat) d_Pr_find_15 (tY_p_2 hE hp) (q_okE hE (by omega)) c3 (by decide) (rfl) ?_
    refine j_lload_n d_Pr_find_16 1 rfl ?_
    obtain ⟨h1, h2⟩ := h
    refine zj_lcmp_ne 23 d_Pr_find_17 d_Pr_find_18 (by decide) (fun k4 => ?_) (fun k4 => ?_)
    · have h := h1 k4
      refine zj_iinc (L' := [(3, .int (zI (x3 + 1))), (0, .ref p), (1, .long x1)]) (x3 + 1) d_Pr_find_23 2 rfl (by omega) (by decide) rfl ?_
      refine j_goto 2 d_Pr_find_26 (by decide) ?_
      exact j_sel [1, 2, 0] rfl h
    · have h := h2 k4
      refine j_iload_n d_Pr_find_21 2 rfl ?_
      exact zj_iret d_Pr_find_22 rfl (Nat.zero_le _) (Nat.zero_le _) h
set_option maxHeartbeats 2000000 in
theorem b_Pr_find_31 {ω : q_W} {σ : q_H} {Q : q_R → q_H → Prop} {d mc ms : Nat} {x1 : Int64} {x3 : Int} {p : Nat} (hp : p = 16 ∨ p = 29) (hE : q_E σ) (h : inR x3 ∧ q_imp (x3 ≥ (z σ p 4)) ((Q (.inl (some (.int (zI (-1))))) σ)) ∧ q_imp (x3 < (z σ p 4)) ((0 ≤ x3 ∧ x3 < 12) ∧ q_imp ((q_l σ (p + 4) x3.toNat) ≠ x1) ((J ω m_Pr_find d mc ms 0 0 31 [(0, .ref p), (1, .long x1), (3, .int (zI (x3 + 1)))] [] σ Q)) ∧ q_imp ((q_l σ (p + 4) x3.toNat) = x1) ((Q (.inl (some (.int (zI (x3 + 12))))) σ)))) : J ω m_Pr_find d mc ms 0 0 31 [(0, .ref p), (1, .long x1), (3, .int (zI x3))] [] σ Q := by
  refine j_iload_n d_Pr_find_31 2 rfl ?_
  refine j_aload_n d_Pr_find_32 0 rfl ?_
  refine zj_getI (z σ p 4) f_Pr_56 d_Pr_find_33 (tY_p_0 hE hp) (q_okE hE (by omega)) (q_z _ _ _) ?_
  obtain ⟨r5, h⟩ := h
  obtain ⟨h1, h2⟩ := h
  refine zj_icmp_ge 61 d_Pr_find_36 (by decide) r5 (z_R _ _ _) (fun k6 => ?_) (fun k6 => ?_)
  · have h := h1 k6
    refine j_iconst (v := zI (-1)) d_Pr_find_61 (by decide) ?_
    exact zj_iret d_Pr_find_62 rfl (Nat.zero_le _) (Nat.zero_le _) h
  · have h := h2 k6
    refine j_aload_n d_Pr_find_39 0 rfl ?_
    refine j_getR (p + 4) f_Pr_22 d_Pr_find_40 (tY_p_0 hE hp) (q_okE hE (by omega)) (rY_p_6 hE hp) (by omega) ?_
    refine j_iload_n d_Pr_find_43 2 rfl ?_
    obtain ⟨c7, h⟩ := h
    refine zj_lald (q_l σ (p + 4) x3.toNat) d_Pr_find_44 (tY_p_4 hE hp) (q_okE hE (by omega)) c7 (by decide) (rfl) ?_
    refine j_lload_n d_Pr_find_45 1 rfl ?_
    obtain ⟨h1, h2⟩ := h
    refine zj_lcmp_ne 55 d_Pr_find_46 d_Pr_find_47 (by decide) (fun k8 => ?_) (fun k8 => ?_)
    · have h := h1 k8
      refine zj_iinc (L' := [(3, .int (zI (x3 + 1))), (0, .ref p), (1, .long x1)]) (x3 + 1) d_Pr_find_55 2 rfl (by omega) (by decide) rfl ?_
      refine j_goto 31 d_Pr_find_58 (by decide) ?_
      exact j_sel [1, 2, 0] rfl h
    · have h := h2 k8
      refine j_bipush (v := zI 12) d_Pr_find_50 (by decide) ?_
      refine j_iload_n d_Pr_find_52 2 rfl ?_
      refine zj_iadd (x3 + 12) (by omega) d_Pr_find_53 ?_
      exact zj_iret d_Pr_find_54 rfl (Nat.zero_le _) (Nat.zero_le _) h
set_option maxHeartbeats 2000000 in
theorem b_Pr_note_0 {ω : q_W} {σ : q_H} {Q : q_R → q_H → Prop} {d mc ms : Nat} {x1 : Int} {x2 : Int} {p : Nat} (hp : p = 16 ∨ p = 29) (hE : q_E σ) (h : q_imp ((z σ p 9) ≠ 0) ((Q (.inl none) σ)) ∧ q_imp ((z σ p 9) = 0) ((Q (.inl none) (zs (zs σ p 9 x1) p 10 x2)))) : J ω m_Pr_note d mc ms 0 0 0 [(0, .ref p), (1, .int (zI x1)), (2, .int (zI x2))] [] σ Q := by
  refine j_aload_n d_Pr_note_0 0 rfl ?_
  refine zj_getI (z σ p 9) f_Pr_65 d_Pr_note_1 (tY_p_0 hE hp) (q_okE hE (by omega)) (q_z _ _ _) ?_
  obtain ⟨h1, h2⟩ := h
  refine zj_if_ne 17 d_Pr_note_4 (by decide) (z_R _ _ _) (fun k1 => ?_) (fun k1 => ?_)
  · have h := h1 k1
    exact j_vret d_Pr_note_17 rfl (Nat.zero_le _) (Nat.zero_le _) h
  · have h := h2 k1
    refine j_aload_n d_Pr_note_7 0 rfl ?_
    refine j_iload_n d_Pr_note_8 1 rfl ?_
    refine zj_putI (g_Pr_65 _) d_Pr_note_9 (tY_p_0 hE hp) (q_okE hE (by omega)) ?_
    refine j_aload_n d_Pr_note_12 0 rfl ?_
    refine j_iload_n d_Pr_note_13 2 rfl ?_
    refine zj_putI (g_Pr_68 _) d_Pr_note_14 (tY_p_0 (zs_E hE) hp) (q_okE (zs_E hE) (by omega)) ?_
    exact j_vret d_Pr_note_17 rfl (Nat.zero_le _) (Nat.zero_le _) h
set_option maxHeartbeats 2000000 in
theorem b_Pr_addInput_0 {ω : q_W} {σ : q_H} {Q : q_R → q_H → Prop} {d mc ms : Nat} {x1 : Int64} {x3 : Int} {p : Nat} (hp : p = 16 ∨ p = 29) (hE : q_E σ) (h : inR ((z σ p 1) + x3) ∧ q_imp (((z σ p 1) + x3) ≤ 12) ((0 ≤ (z σ p 0) ∧ (z σ p 0) < 12) ∧ (Q (.inl (some (.int (zI 1)))) (zs (zs (zs (zt σ (p + 2) (z σ p 0).toNat x1) (p + 1) (z σ p 0).toNat x3) p 0 ((z σ p 0) + 1)) p 1 ((z σ p 1) + x3)))) ∧ q_imp (((z σ p 1) + x3) > 12) ((Q (.inl (some (.int (zI 0)))) σ))) : J ω m_Pr_addInput d mc ms 0 0 0 [(0, .ref p), (1, .long x1), (3, .int (zI x3))] [] σ Q := by
  refine j_aload_n d_Pr_addInput_0 0 rfl ?_
  refine zj_getI (z σ p 1) f_Pr_53 d_Pr_addInput_1 (tY_p_0 hE hp) (q_okE hE (by omega)) (q_z _ _ _) ?_
  refine j_iload_n d_Pr_addInput_4 2 rfl ?_
  refine zj_iadd ((z σ p 1) + x3) rfl d_Pr_addInput_5 ?_
  refine j_bipush (v := zI 12) d_Pr_addInput_6 (by decide) ?_
  obtain ⟨r1, h⟩ := h
  obtain ⟨h1, h2⟩ := h
  refine zj_icmp_le 13 d_Pr_addInput_8 (by decide) r1 ⟨by decide, by decide⟩ (fun k2 => ?_) (fun k2 => ?_)
  · have h := h1 k2
    refine j_aload_n d_Pr_addInput_13 0 rfl ?_
    refine j_getR (p + 2) f_Pr_15 d_Pr_addInput_14 (tY_p_0 hE hp) (q_okE hE (by omega)) (rY_p_3 hE hp) (by omega) ?_
    refine j_aload_n d_Pr_addInput_17 0 rfl ?_
    refine zj_getI (z σ p 0) f_Pr_49 d_Pr_addInput_18 (tY_p_0 hE hp) (q_okE hE (by omega)) (q_z _ _ _) ?_
    refine j_lload_n d_Pr_addInput_21 1 rfl ?_
    obtain ⟨c3, h⟩ := h
    refine zj_last d_Pr_addInput_22 (tY_p_2 hE hp) (q_okE hE (by omega)) c3 (by decide) ?_
    refine j_aload_n d_Pr_addInput_23 0 rfl ?_
    refine j_getR (p + 1) f_Pr_9 d_Pr_addInput_24 (tY_p_0 (zt_E hE) hp) (q_okE (zt_E hE) (by omega)) (rY_p_2 (zt_E hE) hp) (by omega) ?_
    refine j_aload_n d_Pr_addInput_27 0 rfl ?_
    refine zj_getI (z σ p 0) f_Pr_49 d_Pr_addInput_28 (tY_p_0 (zt_E hE) hp) (q_okE (zt_E hE) (by omega)) (Eq.trans (qt_i) (q_z _ _ _)) ?_
    refine j_iload_n d_Pr_addInput_31 2 rfl ?_
    refine zj_iast d_Pr_addInput_32 (tY_p_1 (zt_E hE) hp) (q_okE (zt_E hE) (by omega)) c3 (by decide) ?_
    refine j_aload_n d_Pr_addInput_33 0 rfl ?_
    refine j_dup d_Pr_addInput_34 rfl ?_
    refine zj_getI (z σ p 0) f_Pr_49 d_Pr_addInput_35 (tY_p_0 (zs_E (zt_E hE)) hp) (q_okE (zs_E (zt_E hE)) (by omega)) (Eq.trans (qs_o (by omega)) (Eq.trans (qt_i) (q_z _ _ _))) ?_
    refine j_iconst (v := zI 1) d_Pr_addInput_38 (by decide) ?_
    refine zj_iadd ((z σ p 0) + 1) (by omega) d_Pr_addInput_39 ?_
    refine zj_putI (g_Pr_49 _) d_Pr_addInput_40 (tY_p_0 (zs_E (zt_E hE)) hp) (q_okE (zs_E (zt_E hE)) (by omega)) ?_
    refine j_aload_n d_Pr_addInput_43 0 rfl ?_
    refine j_dup d_Pr_addInput_44 rfl ?_
    refine zj_getI (z σ p 1) f_Pr_53 d_Pr_addInput_45 (tY_p_0 (zs_E (zs_E (zt_E hE))) hp) (q_okE (zs_E (zs_E (zt_E hE))) (by omega)) (Eq.trans (qs_k (by decide)) (Eq.trans (qs_o (by omega)) (Eq.trans (qt_i) (q_z _ _ _)))) ?_
    refine j_iload_n d_Pr_addInput_48 2 rfl ?_
    refine zj_iadd ((z σ p 1) + x3) rfl d_Pr_addInput_49 ?_
    refine zj_putI (g_Pr_53 _) d_Pr_addInput_50 (tY_p_0 (zs_E (zs_E (zt_E hE))) hp) (q_okE (zs_E (zs_E (zt_E hE))) (by omega)) ?_
    refine j_iconst (v := zI 1) d_Pr_addInput_53 (by decide) ?_
    exact zj_zret d_Pr_addInput_54 rfl (by decide) (Nat.zero_le _) (Nat.zero_le _) h
  · have h := h2 k2
    refine j_iconst (v := zI 0) d_Pr_addInput_11 (by decide) ?_
    exact zj_zret d_Pr_addInput_12 rfl (by decide) (Nat.zero_le _) (Nat.zero_le _) h
set_option maxHeartbeats 2000000 in
theorem b_Pr_addVariable_0 {ω : q_W} {σ : q_H} {Q : q_R → q_H → Prop} {d mc ms : Nat} {x1 : Int64} {x3 : Int} {p : Nat} (hp : p = 16 ∨ p = 29) (hE : q_E σ) (h : q_imp ((z σ p 4) < 12) ((0 ≤ (z σ p 4) ∧ (z σ p 4) < 12) ∧ (Q (.inl (some (.int (zI 1)))) (zs (zs (zt σ (p + 4) (z σ p 4).toNat x1) (p + 3) (z σ p 4).toNat x3) p 4 ((z σ p 4) + 1)))) ∧ q_imp ((z σ p 4) ≥ 12) ((Q (.inl (some (.int (zI 0)))) σ))) : J ω m_Pr_addVariable d mc ms 0 0 0 [(0, .ref p), (1, .long x1), (3, .int (zI x3))] [] σ Q := by
  refine j_aload_n d_Pr_addVariable_0 0 rfl ?_
  refine zj_getI (z σ p 4) f_Pr_56 d_Pr_addVariable_1 (tY_p_0 hE hp) (q_okE hE (by omega)) (q_z _ _ _) ?_
  refine j_bipush (v := zI 12) d_Pr_addVariable_4 (by decide) ?_
  obtain ⟨h1, h2⟩ := h
  refine zj_icmp_lt 11 d_Pr_addVariable_6 (by decide) (z_R _ _ _) ⟨by decide, by decide⟩ (fun k1 => ?_) (fun k1 => ?_)
  · have h := h1 k1
    refine j_aload_n d_Pr_addVariable_11 0 rfl ?_
    refine j_getR (p + 4) f_Pr_22 d_Pr_addVariable_12 (tY_p_0 hE hp) (q_okE hE (by omega)) (rY_p_6 hE hp) (by omega) ?_
    refine j_aload_n d_Pr_addVariable_15 0 rfl ?_
    refine zj_getI (z σ p 4) f_Pr_56 d_Pr_addVariable_16 (tY_p_0 hE hp) (q_okE hE (by omega)) (q_z _ _ _) ?_
    refine j_lload_n d_Pr_addVariable_19 1 rfl ?_
    obtain ⟨c2, h⟩ := h
    refine zj_last d_Pr_addVariable_20 (tY_p_4 hE hp) (q_okE hE (by omega)) c2 (by decide) ?_
    refine j_aload_n d_Pr_addVariable_21 0 rfl ?_
    refine j_getR (p + 3) f_Pr_19 d_Pr_addVariable_22 (tY_p_0 (zt_E hE) hp) (q_okE (zt_E hE) (by omega)) (rY_p_5 (zt_E hE) hp) (by omega) ?_
    refine j_aload_n d_Pr_addVariable_25 0 rfl ?_
    refine zj_getI (z σ p 4) f_Pr_56 d_Pr_addVariable_26 (tY_p_0 (zt_E hE) hp) (q_okE (zt_E hE) (by omega)) (Eq.trans (qt_i) (q_z _ _ _)) ?_
    refine j_iload_n d_Pr_addVariable_29 2 rfl ?_
    refine zj_iast d_Pr_addVariable_30 (tY_p_3 (zt_E hE) hp) (q_okE (zt_E hE) (by omega)) c2 (by decide) ?_
    refine j_aload_n d_Pr_addVariable_31 0 rfl ?_
    refine j_dup d_Pr_addVariable_32 rfl ?_
    refine zj_getI (z σ p 4) f_Pr_56 d_Pr_addVariable_33 (tY_p_0 (zs_E (zt_E hE)) hp) (q_okE (zs_E (zt_E hE)) (by omega)) (Eq.trans (qs_o (by omega)) (Eq.trans (qt_i) (q_z _ _ _))) ?_
    refine j_iconst (v := zI 1) d_Pr_addVariable_36 (by decide) ?_
    refine zj_iadd ((z σ p 4) + 1) (by omega) d_Pr_addVariable_37 ?_
    refine zj_putI (g_Pr_56 _) d_Pr_addVariable_38 (tY_p_0 (zs_E (zt_E hE)) hp) (q_okE (zs_E (zt_E hE)) (by omega)) ?_
    refine j_iconst (v := zI 1) d_Pr_addVariable_41 (by decide) ?_
    exact zj_zret d_Pr_addVariable_42 rfl (by decide) (Nat.zero_le _) (Nat.zero_le _) h
  · have h := h2 k1
    refine j_iconst (v := zI 0) d_Pr_addVariable_9 (by decide) ?_
    exact zj_zret d_Pr_addVariable_10 rfl (by decide) (Nat.zero_le _) (Nat.zero_le _) h
set_option maxHeartbeats 2000000 in
theorem b_Pr_addStep_0 {ω : q_W} {σ : q_H} {Q : q_R → q_H → Prop} {d mc ms : Nat} {x1 : Int} {x2 : Int} {x3 : Int} {p : Nat} (hp : p = 16 ∨ p = 29) (hE : q_E σ) (h : q_imp ((z σ p 11) < 2048) ((0 ≤ (z σ p 11) ∧ (z σ p 11) < 2048) ∧ (Q (.inl (some (.int (zI (z σ p 11))))) (zs (zs (zs (zs (zs (zs σ (p + 5) (z σ p 11).toNat x1) (p + 6) (z σ p 11).toNat x2) (p + 7) (z σ p 11).toNat x3) (p + 8) (z σ p 11).toNat (z σ p 17)) (p + 9) (z σ p 11).toNat 0) p 11 ((z σ p 11) + 1)))) ∧ q_imp ((z σ p 11) ≥ 2048) ((Q (.inl (some (.int (zI 2047)))) σ))) : J ω m_Pr_addStep d mc ms 0 0 0 [(0, .ref p), (1, .int (zI x1)), (2, .int (zI x2)), (3, .int (zI x3))] [] σ Q := by
  refine j_aload_n d_Pr_addStep_0 0 rfl ?_
  refine zj_getI (z σ p 11) f_Pr_71 d_Pr_addStep_1 (tY_p_0 hE hp) (q_okE hE (by omega)) (q_z _ _ _) ?_
  refine j_sipush (v := zI 2048) d_Pr_addStep_4 (by decide) ?_
  obtain ⟨h1, h2⟩ := h
  refine zj_icmp_lt 14 d_Pr_addStep_7 (by decide) (z_R _ _ _) ⟨by decide, by decide⟩ (fun k1 => ?_) (fun k1 => ?_)
  · have h := h1 k1
    refine j_aload_n d_Pr_addStep_14 0 rfl ?_
    refine zj_getI (z σ p 11) f_Pr_71 d_Pr_addStep_15 (tY_p_0 hE hp) (q_okE hE (by omega)) (q_z _ _ _) ?_
    refine j_istore (L' := [(4, .int (zI (z σ p 11))), (0, .ref p), (1, .int (zI x1)), (2, .int (zI x2)), (3, .int (zI x3))]) d_Pr_addStep_18 (by decide) rfl ?_
    refine j_aload_n d_Pr_addStep_20 1 rfl ?_
    refine j_getR (p + 5) f_Pr_25 d_Pr_addStep_21 (tY_p_0 hE hp) (q_okE hE (by omega)) (rY_p_12 hE hp) (by omega) ?_
    refine j_iload d_Pr_addStep_24 0 rfl ?_
    refine j_iload_n d_Pr_addStep_26 2 rfl ?_
    obtain ⟨c2, h⟩ := h
    refine zj_iast d_Pr_addStep_27 (tY_p_5 hE hp) (q_okE hE (by omega)) c2 (by decide) ?_
    refine j_aload_n d_Pr_addStep_28 1 rfl ?_
    refine j_getR (p + 6) f_Pr_28 d_Pr_addStep_29 (tY_p_0 (zs_E hE) hp) (q_okE (zs_E hE) (by omega)) (rY_p_13 (zs_E hE) hp) (by omega) ?_
    refine j_iload d_Pr_addStep_32 0 rfl ?_
    refine j_iload_n d_Pr_addStep_34 3 rfl ?_
    refine zj_iast d_Pr_addStep_35 (tY_p_6 (zs_E hE) hp) (q_okE (zs_E hE) (by omega)) c2 (by decide) ?_
    refine j_aload_n d_Pr_addStep_36 1 rfl ?_
    refine j_getR (p + 7) f_Pr_31 d_Pr_addStep_37 (tY_p_0 (zs_E (zs_E hE)) hp) (q_okE (zs_E (zs_E hE)) (by omega)) (rY_p_14 (zs_E (zs_E hE)) hp) (by omega) ?_
    refine j_iload d_Pr_addStep_40 0 rfl ?_
    refine j_iload_n d_Pr_addStep_42 4 rfl ?_
    refine zj_iast d_Pr_addStep_43 (tY_p_7 (zs_E (zs_E hE)) hp) (q_okE (zs_E (zs_E hE)) (by omega)) c2 (by decide) ?_
    refine j_aload_n d_Pr_addStep_44 1 rfl ?_
    refine j_getR (p + 8) f_Pr_34 d_Pr_addStep_45 (tY_p_0 (zs_E (zs_E (zs_E hE))) hp) (q_okE (zs_E (zs_E (zs_E hE))) (by omega)) (rY_p_15 (zs_E (zs_E (zs_E hE))) hp) (by omega) ?_
    refine j_iload d_Pr_addStep_48 0 rfl ?_
    refine j_aload_n d_Pr_addStep_50 1 rfl ?_
    refine zj_getI (z σ p 17) f_Pr_74 d_Pr_addStep_51 (tY_p_0 (zs_E (zs_E (zs_E hE))) hp) (q_okE (zs_E (zs_E (zs_E hE))) (by omega)) (Eq.trans (qs_o (by omega)) (Eq.trans (qs_o (by omega)) (Eq.trans (qs_o (by omega)) (q_z _ _ _)))) ?_
    refine zj_iast d_Pr_addStep_54 (tY_p_8 (zs_E (zs_E (zs_E hE))) hp) (q_okE (zs_E (zs_E (zs_E hE))) (by omega)) c2 (by decide) ?_
    refine j_aload_n d_Pr_addStep_55 1 rfl ?_
    refine j_getR (p + 9) f_Pr_37 d_Pr_addStep_56 (tY_p_0 (zs_E (zs_E (zs_E (zs_E hE)))) hp) (q_okE (zs_E (zs_E (zs_E (zs_E hE)))) (by omega)) (rY_p_16 (zs_E (zs_E (zs_E (zs_E hE)))) hp) (by omega) ?_
    refine j_iload d_Pr_addStep_59 0 rfl ?_
    refine j_iconst (v := zI 0) d_Pr_addStep_61 (by decide) ?_
    refine zj_iast d_Pr_addStep_62 (tY_p_9 (zs_E (zs_E (zs_E (zs_E hE)))) hp) (q_okE (zs_E (zs_E (zs_E (zs_E hE)))) (by omega)) c2 (by decide) ?_
    refine j_aload_n d_Pr_addStep_63 1 rfl ?_
    refine j_dup d_Pr_addStep_64 rfl ?_
    refine zj_getI (z σ p 11) f_Pr_71 d_Pr_addStep_65 (tY_p_0 (zs_E (zs_E (zs_E (zs_E (zs_E hE))))) hp) (q_okE (zs_E (zs_E (zs_E (zs_E (zs_E hE))))) (by omega)) (Eq.trans (qs_o (by omega)) (Eq.trans (qs_o (by omega)) (Eq.trans (qs_o (by omega)) (Eq.trans (qs_o (by omega)) (Eq.trans (qs_o (by omega)) (q_z _ _ _)))))) ?_
    refine j_iconst (v := zI 1) d_Pr_addStep_68 (by decide) ?_
    refine zj_iadd ((z σ p 11) + 1) (by omega) d_Pr_addStep_69 ?_
    refine zj_putI (g_Pr_71 _) d_Pr_addStep_70 (tY_p_0 (zs_E (zs_E (zs_E (zs_E (zs_E hE))))) hp) (q_okE (zs_E (zs_E (zs_E (zs_E (zs_E hE))))) (by omega)) ?_
    refine j_iload d_Pr_addStep_73 0 rfl ?_
    exact zj_iret d_Pr_addStep_75 rfl (Nat.zero_le _) (Nat.zero_le _) h
  · have h := h2 k1
    refine j_sipush (v := zI 2047) d_Pr_addStep_10 (by decide) ?_
    exact zj_iret d_Pr_addStep_13 rfl (Nat.zero_le _) (Nat.zero_le _) h
