/-! stretches of bytecode as conditions: Ma_arithmetic Ma_fetch Ma_single -/
theorem d_Ma_fetch_0 : decode m_Ma_fetch.2.1 0 = .ok (.iload_n 1, 1) := by decide +kernel
theorem d_Ma_fetch_1 : decode m_Ma_fetch.2.1 1 = .ok (.bipush 23, 2) := by decide +kernel
theorem d_Ma_fetch_3 : decode m_Ma_fetch.2.1 3 = .ok (.if_icmp .ne 7, 3) := by decide +kernel
theorem d_Ma_fetch_6 : decode m_Ma_fetch.2.1 6 = .ok (.iload_n 2, 1) := by decide +kernel
theorem d_Ma_fetch_7 : decode m_Ma_fetch.2.1 7 = .ok (.goto 24, 3) := by decide +kernel
theorem d_Ma_fetch_10 : decode m_Ma_fetch.2.1 10 = .ok (.iload_n 1, 1) := by decide +kernel
theorem d_Ma_fetch_11 : decode m_Ma_fetch.2.1 11 = .ok (.bipush 24, 2) := by decide +kernel
theorem d_Ma_fetch_13 : decode m_Ma_fetch.2.1 13 = .ok (.if_icmp .ne 12, 3) := by decide +kernel
theorem d_Ma_fetch_16 : decode m_Ma_fetch.2.1 16 = .ok (.aload_n 0, 1) := by decide +kernel
theorem d_Ma_fetch_17 : decode m_Ma_fetch.2.1 17 = .ok (.getfield 41, 3) := by decide +kernel
theorem d_Ma_fetch_20 : decode m_Ma_fetch.2.1 20 = .ok (.iload_n 2, 1) := by decide +kernel
theorem d_Ma_fetch_21 : decode m_Ma_fetch.2.1 21 = .ok (.iaload, 1) := by decide +kernel
theorem d_Ma_fetch_22 : decode m_Ma_fetch.2.1 22 = .ok (.goto 9, 3) := by decide +kernel
theorem d_Ma_fetch_25 : decode m_Ma_fetch.2.1 25 = .ok (.aload_n 0, 1) := by decide +kernel
theorem d_Ma_fetch_26 : decode m_Ma_fetch.2.1 26 = .ok (.getfield 15, 3) := by decide +kernel
theorem d_Ma_fetch_29 : decode m_Ma_fetch.2.1 29 = .ok (.iload_n 2, 1) := by decide +kernel
theorem d_Ma_fetch_30 : decode m_Ma_fetch.2.1 30 = .ok (.iaload, 1) := by decide +kernel
theorem d_Ma_fetch_31 : decode m_Ma_fetch.2.1 31 = .ok (.ireturn, 1) := by decide +kernel
theorem d_Ma_single_0 : decode m_Ma_single.2.1 0 = .ok (.iload_n 0, 1) := by decide +kernel
theorem d_Ma_single_1 : decode m_Ma_single.2.1 1 = .ok (.bipush 19, 2) := by decide +kernel
theorem d_Ma_single_3 : decode m_Ma_single.2.1 3 = .ok (.if_icmp .ne 18, 3) := by decide +kernel
theorem d_Ma_single_6 : decode m_Ma_single.2.1 6 = .ok (.iload_n 1, 1) := by decide +kernel
theorem d_Ma_single_7 : decode m_Ma_single.2.1 7 = .ok (.ifCond .ne 7, 3) := by decide +kernel
theorem d_Ma_single_10 : decode m_Ma_single.2.1 10 = .ok (.iconst 1, 1) := by decide +kernel
theorem d_Ma_single_11 : decode m_Ma_single.2.1 11 = .ok (.goto 4, 3) := by decide +kernel
theorem d_Ma_single_14 : decode m_Ma_single.2.1 14 = .ok (.iconst 0, 1) := by decide +kernel
theorem d_Ma_single_15 : decode m_Ma_single.2.1 15 = .ok (.invokestatic 101, 3) := by decide +kernel
theorem d_Ma_single_18 : decode m_Ma_single.2.1 18 = .ok (.goto 17, 3) := by decide +kernel
theorem d_Ma_single_21 : decode m_Ma_single.2.1 21 = .ok (.iload_n 0, 1) := by decide +kernel
theorem d_Ma_single_22 : decode m_Ma_single.2.1 22 = .ok (.bipush 20, 2) := by decide +kernel
theorem d_Ma_single_24 : decode m_Ma_single.2.1 24 = .ok (.if_icmp .ne 9, 3) := by decide +kernel
theorem d_Ma_single_27 : decode m_Ma_single.2.1 27 = .ok (.iload_n 1, 1) := by decide +kernel
theorem d_Ma_single_28 : decode m_Ma_single.2.1 28 = .ok (.iconst (-1), 1) := by decide +kernel
theorem d_Ma_single_29 : decode m_Ma_single.2.1 29 = .ok (.ixor, 1) := by decide +kernel
theorem d_Ma_single_30 : decode m_Ma_single.2.1 30 = .ok (.goto 5, 3) := by decide +kernel
theorem d_Ma_single_33 : decode m_Ma_single.2.1 33 = .ok (.iload_n 1, 1) := by decide +kernel
theorem d_Ma_single_34 : decode m_Ma_single.2.1 34 = .ok (.ineg, 1) := by decide +kernel
theorem d_Ma_single_35 : decode m_Ma_single.2.1 35 = .ok (.ireturn, 1) := by decide +kernel
theorem d_Ma_arithmetic_0 : decode m_Ma_arithmetic.2.1 0 = .ok (.iload_n 0, 1) := by decide +kernel
theorem d_Ma_arithmetic_1 : decode m_Ma_arithmetic.2.1 1 = .ok (.tableswitch 89 12 17 #[39, 52, 65, 69, 73, 77], 39) := by decide +kernel
theorem d_Ma_arithmetic_40 : decode m_Ma_arithmetic.2.1 40 = .ok (.iload_n 2, 1) := by decide +kernel
theorem d_Ma_arithmetic_41 : decode m_Ma_arithmetic.2.1 41 = .ok (.iload_n 3, 1) := by decide +kernel
theorem d_Ma_arithmetic_42 : decode m_Ma_arithmetic.2.1 42 = .ok (.if_icmp .lt 7, 3) := by decide +kernel
theorem d_Ma_arithmetic_45 : decode m_Ma_arithmetic.2.1 45 = .ok (.iconst 0, 1) := by decide +kernel
theorem d_Ma_arithmetic_46 : decode m_Ma_arithmetic.2.1 46 = .ok (.goto 6, 3) := by decide +kernel
theorem d_Ma_arithmetic_49 : decode m_Ma_arithmetic.2.1 49 = .ok (.iload_n 1, 1) := by decide +kernel
theorem d_Ma_arithmetic_50 : decode m_Ma_arithmetic.2.1 50 = .ok (.iload_n 2, 1) := by decide +kernel
theorem d_Ma_arithmetic_51 : decode m_Ma_arithmetic.2.1 51 = .ok (.ishl, 1) := by decide +kernel
theorem d_Ma_arithmetic_52 : decode m_Ma_arithmetic.2.1 52 = .ok (.ireturn, 1) := by decide +kernel
theorem d_Ma_arithmetic_53 : decode m_Ma_arithmetic.2.1 53 = .ok (.iload_n 2, 1) := by decide +kernel
theorem d_Ma_arithmetic_54 : decode m_Ma_arithmetic.2.1 54 = .ok (.iload_n 3, 1) := by decide +kernel
theorem d_Ma_arithmetic_55 : decode m_Ma_arithmetic.2.1 55 = .ok (.if_icmp .lt 7, 3) := by decide +kernel
theorem d_Ma_arithmetic_58 : decode m_Ma_arithmetic.2.1 58 = .ok (.iconst 0, 1) := by decide +kernel
theorem d_Ma_arithmetic_59 : decode m_Ma_arithmetic.2.1 59 = .ok (.goto 6, 3) := by decide +kernel
theorem d_Ma_arithmetic_62 : decode m_Ma_arithmetic.2.1 62 = .ok (.iload_n 1, 1) := by decide +kernel
theorem d_Ma_arithmetic_63 : decode m_Ma_arithmetic.2.1 63 = .ok (.iload_n 2, 1) := by decide +kernel
theorem d_Ma_arithmetic_64 : decode m_Ma_arithmetic.2.1 64 = .ok (.ishr, 1) := by decide +kernel
theorem d_Ma_arithmetic_65 : decode m_Ma_arithmetic.2.1 65 = .ok (.ireturn, 1) := by decide +kernel
theorem d_Ma_arithmetic_66 : decode m_Ma_arithmetic.2.1 66 = .ok (.iload_n 1, 1) := by decide +kernel
theorem d_Ma_arithmetic_67 : decode m_Ma_arithmetic.2.1 67 = .ok (.iload_n 2, 1) := by decide +kernel
theorem d_Ma_arithmetic_68 : decode m_Ma_arithmetic.2.1 68 = .ok (.iadd, 1) := by decide +kernel
theorem d_Ma_arithmetic_69 : decode m_Ma_arithmetic.2.1 69 = .ok (.ireturn, 1) := by decide +kernel
theorem d_Ma_arithmetic_70 : decode m_Ma_arithmetic.2.1 70 = .ok (.iload_n 1, 1) := by decide +kernel
theorem d_Ma_arithmetic_71 : decode m_Ma_arithmetic.2.1 71 = .ok (.iload_n 2, 1) := by decide +kernel
theorem d_Ma_arithmetic_72 : decode m_Ma_arithmetic.2.1 72 = .ok (.isub, 1) := by decide +kernel
theorem d_Ma_arithmetic_73 : decode m_Ma_arithmetic.2.1 73 = .ok (.ireturn, 1) := by decide +kernel
theorem d_Ma_arithmetic_74 : decode m_Ma_arithmetic.2.1 74 = .ok (.iload_n 1, 1) := by decide +kernel
theorem d_Ma_arithmetic_75 : decode m_Ma_arithmetic.2.1 75 = .ok (.iload_n 2, 1) := by decide +kernel
theorem d_Ma_arithmetic_76 : decode m_Ma_arithmetic.2.1 76 = .ok (.imul, 1) := by decide +kernel
theorem d_Ma_arithmetic_77 : decode m_Ma_arithmetic.2.1 77 = .ok (.ireturn, 1) := by decide +kernel
theorem d_Ma_arithmetic_78 : decode m_Ma_arithmetic.2.1 78 = .ok (.iload_n 2, 1) := by decide +kernel
theorem d_Ma_arithmetic_79 : decode m_Ma_arithmetic.2.1 79 = .ok (.ifCond .ne 7, 3) := by decide +kernel
theorem d_Ma_arithmetic_82 : decode m_Ma_arithmetic.2.1 82 = .ok (.iconst (-1), 1) := by decide +kernel
theorem d_Ma_arithmetic_83 : decode m_Ma_arithmetic.2.1 83 = .ok (.goto 6, 3) := by decide +kernel
theorem d_Ma_arithmetic_86 : decode m_Ma_arithmetic.2.1 86 = .ok (.iload_n 1, 1) := by decide +kernel
theorem d_Ma_arithmetic_87 : decode m_Ma_arithmetic.2.1 87 = .ok (.iload_n 2, 1) := by decide +kernel
theorem d_Ma_arithmetic_88 : decode m_Ma_arithmetic.2.1 88 = .ok (.idiv, 1) := by decide +kernel
theorem d_Ma_arithmetic_89 : decode m_Ma_arithmetic.2.1 89 = .ok (.ireturn, 1) := by decide +kernel
theorem d_Ma_arithmetic_90 : decode m_Ma_arithmetic.2.1 90 = .ok (.iload_n 2, 1) := by decide +kernel
theorem d_Ma_arithmetic_91 : decode m_Ma_arithmetic.2.1 91 = .ok (.ifCond .ne 7, 3) := by decide +kernel
theorem d_Ma_arithmetic_94 : decode m_Ma_arithmetic.2.1 94 = .ok (.iload_n 1, 1) := by decide +kernel
theorem d_Ma_arithmetic_95 : decode m_Ma_arithmetic.2.1 95 = .ok (.goto 6, 3) := by decide +kernel
theorem d_Ma_arithmetic_98 : decode m_Ma_arithmetic.2.1 98 = .ok (.iload_n 1, 1) := by decide +kernel
theorem d_Ma_arithmetic_99 : decode m_Ma_arithmetic.2.1 99 = .ok (.iload_n 2, 1) := by decide +kernel
theorem d_Ma_arithmetic_100 : decode m_Ma_arithmetic.2.1 100 = .ok (.irem, 1) := by decide +kernel
theorem d_Ma_arithmetic_101 : decode m_Ma_arithmetic.2.1 101 = .ok (.ireturn, 1) := by decide +kernel
theorem f_Ma_41 : q_FR "ProofHall$Machine" 41 4 6 := ⟨"[I", by decide, ⟨_, _, _, rfl, by decide, rfl, Or.inl (List.mem_of_getElem? (i := 323) (by decide +kernel))⟩⟩
set_option maxHeartbeats 2000000 in
theorem b_Ma_fetch_0 {ω : q_W} {σ : q_H} {Q : q_R → q_H → Prop} {d mc ms : Nat} {x1 : Int} {x2 : Int} {m : Nat} (hm : m = 43 ∨ m = 87) {p : Nat} (hp : p = 16 ∨ p = 29) {w : Nat} (hw : w = 42 ∨ w = 91) (rm5 : q_r σ m 5 = p) (rm6 : q_r σ m 6 = w) (hE : q_E σ) (h : inR x1 ∧ q_imp (x1 ≠ 23) (q_imp (x1 ≠ 24) ((0 ≤ x2 ∧ x2 < 12) ∧ (Q (.inl (some (.int (zI (z σ (m + 1) x2.toNat))))) σ)) ∧ q_imp (x1 = 24) ((0 ≤ x2 ∧ x2 < 12) ∧ (Q (.inl (some (.int (zI (z σ w x2.toNat))))) σ))) ∧ q_imp (x1 = 23) ((Q (.inl (some (.int (zI x2)))) σ))) : J ω m_Ma_fetch d mc ms 0 0 0 [(0, .ref m), (1, .int (zI x1)), (2, .int (zI x2))] [] σ Q := by
  refine j_iload_n d_Ma_fetch_0 1 rfl ?_
  refine j_bipush (v := zI 23) d_Ma_fetch_1 (by decide) ?_
  obtain ⟨r1, h⟩ := h
  obtain ⟨h1, h2⟩ := h
  refine zj_icmp_ne 10 d_Ma_fetch_3 (by decide) r1 ⟨by decide, by decide⟩ (fun k2 => ?_) (fun k2 => ?_)
  · have h := h1 k2
    refine j_iload_n d_Ma_fetch_10 1 rfl ?_
    refine j_bipush (v := zI 24) d_Ma_fetch_11 (by decide) ?_
    obtain ⟨h1, h2⟩ := h
    refine zj_icmp_ne 25 d_Ma_fetch_13 (by decide) r1 ⟨by decide, by decide⟩ (fun k3 => ?_) (fun k3 => ?_)
    · have h := h1 k3
      refine j_aload_n d_Ma_fetch_25 0 rfl ?_
      refine j_getR (m + 1) f_Ma_15 d_Ma_fetch_26 (tY_m_0 hE hm) (q_okE hE (by omega)) (rY_m_2 hE hm) (by omega) ?_
      refine j_iload_n d_Ma_fetch_29 2 rfl ?_
      obtain ⟨c4, h⟩ := h
      refine zj_iald (z σ (m + 1) x2.toNat) d_Ma_fetch_30 (tY_m_1 hE hm) (q_okE hE (by omega)) c4 (by decide) (q_z _ _ _) ?_
      exact zj_iret d_Ma_fetch_31 rfl (Nat.zero_le _) (Nat.zero_le _) h
    · have h := h2 k3
      refine j_aload_n d_Ma_fetch_16 0 rfl ?_
      refine j_getR w f_Ma_41 d_Ma_fetch_17 (tY_m_0 hE hm) (q_okE hE (by omega)) (rm6) (by omega) ?_
      refine j_iload_n d_Ma_fetch_20 2 rfl ?_
      obtain ⟨c5, h⟩ := h
      refine zj_iald (z σ w x2.toNat) d_Ma_fetch_21 (tY_w_0 hE hw) (q_okE hE (by omega)) c5 (by decide) (q_z _ _ _) ?_
      refine j_goto 31 d_Ma_fetch_22 (by decide) ?_
      exact zj_iret d_Ma_fetch_31 rfl (Nat.zero_le _) (Nat.zero_le _) h
  · have h := h2 k2
    refine j_iload_n d_Ma_fetch_6 2 rfl ?_
    refine j_goto 31 d_Ma_fetch_7 (by decide) ?_
    exact zj_iret d_Ma_fetch_31 rfl (Nat.zero_le _) (Nat.zero_le _) h
set_option maxHeartbeats 2000000 in
theorem b_Ma_single_0 {ω : q_W} {σ : q_H} {Q : q_R → q_H → Prop} {d mc ms : Nat} {x0 : Int} {x1 : Int}  (hE : q_E σ) (h : inR x0 ∧ q_imp (x0 ≠ 19) (q_imp (x0 ≠ 20) ((Q (.inl (some (.int (zI (-x1))))) σ)) ∧ q_imp (x0 = 20) ((Q (.inl (some (.int (zI (zXor x1 (-1)))))) σ))) ∧ q_imp (x0 = 19) (inR x1 ∧ q_imp (x1 ≠ 0) ((Q (.inl (some (.int (zI (zIf ((0 : Int) ≠ 0)))))) σ)) ∧ q_imp (x1 = 0) ((Q (.inl (some (.int (zI (zIf ((1 : Int) ≠ 0)))))) σ)))) : J ω m_Ma_single (d + 1) mc ms 0 0 0 [(0, .int (zI x0)), (1, .int (zI x1))] [] σ Q := by
  refine j_iload_n d_Ma_single_0 0 rfl ?_
  refine j_bipush (v := zI 19) d_Ma_single_1 (by decide) ?_
  obtain ⟨r1, h⟩ := h
  obtain ⟨h1, h2⟩ := h
  refine zj_icmp_ne 21 d_Ma_single_3 (by decide) r1 ⟨by decide, by decide⟩ (fun k2 => ?_) (fun k2 => ?_)
  · have h := h1 k2
    refine j_iload_n d_Ma_single_21 0 rfl ?_
    refine j_bipush (v := zI 20) d_Ma_single_22 (by decide) ?_
    obtain ⟨h1, h2⟩ := h
    refine zj_icmp_ne 33 d_Ma_single_24 (by decide) r1 ⟨by decide, by decide⟩ (fun k3 => ?_) (fun k3 => ?_)
    · have h := h1 k3
      refine j_iload_n d_Ma_single_33 1 rfl ?_
      refine zj_ineg d_Ma_single_34 ?_
      exact zj_iret d_Ma_single_35 rfl (Nat.zero_le _) (Nat.zero_le _) h
    · have h := h2 k3
      refine j_iload_n d_Ma_single_27 1 rfl ?_
      refine j_iconst (v := zI (-1)) d_Ma_single_28 (by decide) ?_
      refine zj_ixor d_Ma_single_29 ?_
      refine j_goto 35 d_Ma_single_30 (by decide) ?_
      exact zj_iret d_Ma_single_35 rfl (Nat.zero_le _) (Nat.zero_le _) h
  · have h := h2 k2
    refine j_iload_n d_Ma_single_6 1 rfl ?_
    obtain ⟨r4, h⟩ := h
    obtain ⟨h1, h2⟩ := h
    refine zj_if_ne 14 d_Ma_single_7 (by decide) r4 (fun k5 => ?_) (fun k5 => ?_)
    · have h := h1 k5
      refine j_iconst (v := zI 0) d_Ma_single_14 (by decide) ?_
      refine j_callS m_Ma_truth [.int (zI 0)] [] 0 0 0 cS_Ma_101 d_Ma_single_15 rfl rfl (Nat.le_of_ble_eq_true rfl) (Nat.succ_le_succ (Nat.zero_le _)) (Nat.le_of_ble_eq_true rfl) (Nat.zero_le _) (Nat.zero_le _) (c_Ma_truth hE ⟨by decide, by decide⟩) (fun v τ h => ?_) (fun x τ h => absurd h.1 (by simp))
      obtain ⟨e1, e2⟩ := h; cases e1; rw [e2]
      refine j_goto 35 d_Ma_single_18 (by decide) ?_
      exact zj_iret d_Ma_single_35 rfl (Nat.zero_le _) (Nat.zero_le _) h
    · have h := h2 k5
      refine j_iconst (v := zI 1) d_Ma_single_10 (by decide) ?_
      refine j_goto 15 d_Ma_single_11 (by decide) ?_
      refine j_callS m_Ma_truth [.int (zI 1)] [] 0 0 0 cS_Ma_101 d_Ma_single_15 rfl rfl (Nat.le_of_ble_eq_true rfl) (Nat.succ_le_succ (Nat.zero_le _)) (Nat.le_of_ble_eq_true rfl) (Nat.zero_le _) (Nat.zero_le _) (c_Ma_truth hE ⟨by decide, by decide⟩) (fun v τ h => ?_) (fun x τ h => absurd h.1 (by simp))
      obtain ⟨e1, e2⟩ := h; cases e1; rw [e2]
      refine j_goto 35 d_Ma_single_18 (by decide) ?_
      exact zj_iret d_Ma_single_35 rfl (Nat.zero_le _) (Nat.zero_le _) h
theorem o_Ma_arithmetic_1 {x : Int} (cs12 : ¬ x = 12) (cs13 : ¬ x = 13) (cs14 : ¬ x = 14) (cs15 : ¬ x = 15) (cs16 : ¬ x = 16) (cs17 : ¬ x = 17) : x < 12 ∨ 17 < x := by omega
set_option maxHeartbeats 2000000 in
theorem b_Ma_arithmetic_0 {ω : q_W} {σ : q_H} {Q : q_R → q_H → Prop} {d mc ms : Nat} {x0 : Int} {x1 : Int} {x2 : Int} {x3 : Int}  (hE : q_E σ) (h : inR x0 ∧ q_imp (x0 = 12) (inR x2 ∧ inR x3 ∧ q_imp (x2 < x3) ((Q (.inl (some (.int (zI (zShl x1 x2))))) σ)) ∧ q_imp (x2 ≥ x3) ((Q (.inl (some (.int (zI 0)))) σ))) ∧ q_imp (x0 = 13) (inR x2 ∧ inR x3 ∧ q_imp (x2 < x3) ((Q (.inl (some (.int (zI (zShr x1 x2))))) σ)) ∧ q_imp (x2 ≥ x3) ((Q (.inl (some (.int (zI 0)))) σ))) ∧ q_imp (x0 = 14) ((Q (.inl (some (.int (zI (x1 + x2))))) σ)) ∧ q_imp (x0 = 15) ((Q (.inl (some (.int (zI (x1 - x2))))) σ)) ∧ q_imp (x0 = 16) ((Q (.inl (some (.int (zI (x1 * x2))))) σ)) ∧ q_imp (x0 = 17) (inR x2 ∧ q_imp (x2 ≠ 0) ((inR x2 ∧ x2 ≠ 0) ∧ (Q (.inl (some (.int (zI (zDiv x1 x2))))) σ)) ∧ q_imp (x2 = 0) ((Q (.inl (some (.int (zI (-1))))) σ))) ∧ q_imp (x0 ≠ 12 ∧ x0 ≠ 13 ∧ x0 ≠ 14 ∧ x0 ≠ 15 ∧ x0 ≠ 16 ∧ x0 ≠ 17) (inR x2 ∧ q_imp (x2 ≠ 0) ((inR x2 ∧ x2 ≠ 0) ∧ (Q (.inl (some (.int (zI (zRem x1 x2))))) σ)) ∧ q_imp (x2 = 0) ((Q (.inl (some (.int (zI x1)))) σ)))) : J ω m_Ma_arithmetic d mc ms 0 0 0 [(0, .int (zI x0)), (1, .int (zI x1)), (2, .int (zI x2)), (3, .int (zI x3))] [] σ Q := by
  refine j_iload_n d_Ma_arithmetic_0 0 rfl ?_
  obtain ⟨r1, h⟩ := h
  obtain ⟨g40, g53, g66, g70, g74, g78, gD⟩ := h
  have jg40 : q_imp (x0 = 12) (J ω m_Ma_arithmetic d mc ms 0 0 40 [(0, .int (zI x0)), (1, .int (zI x1)), (2, .int (zI x2)), (3, .int (zI x3))] [] σ Q) := by
    intro c
    have h := g40 c
    refine j_iload_n d_Ma_arithmetic_40 2 rfl ?_
    refine j_iload_n d_Ma_arithmetic_41 3 rfl ?_
    obtain ⟨r2, h⟩ := h
    obtain ⟨r3, h⟩ := h
    obtain ⟨h1, h2⟩ := h
    refine zj_icmp_lt 49 d_Ma_arithmetic_42 (by decide) r2 r3 (fun k4 => ?_) (fun k4 => ?_)
    · have h := h1 k4
      refine j_iload_n d_Ma_arithmetic_49 1 rfl ?_
      refine j_iload_n d_Ma_arithmetic_50 2 rfl ?_
      refine zj_ishl d_Ma_arithmetic_51 ?_
      exact zj_iret d_Ma_arithmetic_52 rfl (Nat.zero_le _) (Nat.zero_le _) h
    · have h := h2 k4
      refine j_iconst (v := zI 0) d_Ma_arithmetic_45 (by decide) ?_
      refine j_goto 52 d_Ma_arithmetic_46 (by decide) ?_
      exact zj_iret d_Ma_arithmetic_52 rfl (Nat.zero_le _) (Nat.zero_le _) h
  have jg53 : q_imp (x0 = 13) (J ω m_Ma_arithmetic d mc ms 0 0 53 [(0, .int (zI x0)), (1, .int (zI x1)), (2, .int (zI x2)), (3, .int (zI x3))] [] σ Q) := by
    intro c
    have h := g53 c
    refine j_iload_n d_Ma_arithmetic_53 2 rfl ?_
    refine j_iload_n d_Ma_arithmetic_54 3 rfl ?_
    obtain ⟨r5, h⟩ := h
    obtain ⟨r6, h⟩ := h
    obtain ⟨h1, h2⟩ := h
    refine zj_icmp_lt 62 d_Ma_arithmetic_55 (by decide) r5 r6 (fun k7 => ?_) (fun k7 => ?_)
    · have h := h1 k7
      refine j_iload_n d_Ma_arithmetic_62 1 rfl ?_
      refine j_iload_n d_Ma_arithmetic_63 2 rfl ?_
      refine zj_ishr d_Ma_arithmetic_64 ?_
      exact zj_iret d_Ma_arithmetic_65 rfl (Nat.zero_le _) (Nat.zero_le _) h
    · have h := h2 k7
      refine j_iconst (v := zI 0) d_Ma_arithmetic_58 (by decide) ?_
      refine j_goto 65 d_Ma_arithmetic_59 (by decide) ?_
      exact zj_iret d_Ma_arithmetic_65 rfl (Nat.zero_le _) (Nat.zero_le _) h
  have jg66 : q_imp (x0 = 14) (J ω m_Ma_arithmetic d mc ms 0 0 66 [(0, .int (zI x0)), (1, .int (zI x1)), (2, .int (zI x2)), (3, .int (zI x3))] [] σ Q) := by
    intro c
    have h := g66 c
    refine j_iload_n d_Ma_arithmetic_66 1 rfl ?_
    refine j_iload_n d_Ma_arithmetic_67 2 rfl ?_
    refine zj_iadd (x1 + x2) rfl d_Ma_arithmetic_68 ?_
    exact zj_iret d_Ma_arithmetic_69 rfl (Nat.zero_le _) (Nat.zero_le _) h
  have jg70 : q_imp (x0 = 15) (J ω m_Ma_arithmetic d mc ms 0 0 70 [(0, .int (zI x0)), (1, .int (zI x1)), (2, .int (zI x2)), (3, .int (zI x3))] [] σ Q) := by
    intro c
    have h := g70 c
    refine j_iload_n d_Ma_arithmetic_70 1 rfl ?_
    refine j_iload_n d_Ma_arithmetic_71 2 rfl ?_
    refine zj_isub (x1 - x2) rfl d_Ma_arithmetic_72 ?_
    exact zj_iret d_Ma_arithmetic_73 rfl (Nat.zero_le _) (Nat.zero_le _) h
  have jg74 : q_imp (x0 = 16) (J ω m_Ma_arithmetic d mc ms 0 0 74 [(0, .int (zI x0)), (1, .int (zI x1)), (2, .int (zI x2)), (3, .int (zI x3))] [] σ Q) := by
    intro c
    have h := g74 c
    refine j_iload_n d_Ma_arithmetic_74 1 rfl ?_
    refine j_iload_n d_Ma_arithmetic_75 2 rfl ?_
    refine zj_imul (x1 * x2) rfl d_Ma_arithmetic_76 ?_
    exact zj_iret d_Ma_arithmetic_77 rfl (Nat.zero_le _) (Nat.zero_le _) h
  have jg78 : q_imp (x0 = 17) (J ω m_Ma_arithmetic d mc ms 0 0 78 [(0, .int (zI x0)), (1, .int (zI x1)), (2, .int (zI x2)), (3, .int (zI x3))] [] σ Q) := by
    intro c
    have h := g78 c
    refine j_iload_n d_Ma_arithmetic_78 2 rfl ?_
    obtain ⟨r8, h⟩ := h
    obtain ⟨h1, h2⟩ := h
    refine zj_if_ne 86 d_Ma_arithmetic_79 (by decide) r8 (fun k9 => ?_) (fun k9 => ?_)
    · have h := h1 k9
      refine j_iload_n d_Ma_arithmetic_86 1 rfl ?_
      refine j_iload_n d_Ma_arithmetic_87 2 rfl ?_
      obtain ⟨c10, h⟩ := h
      refine zj_idiv d_Ma_arithmetic_88 c10 ?_
      exact zj_iret d_Ma_arithmetic_89 rfl (Nat.zero_le _) (Nat.zero_le _) h
    · have h := h2 k9
      refine j_iconst (v := zI (-1)) d_Ma_arithmetic_82 (by decide) ?_
      refine j_goto 89 d_Ma_arithmetic_83 (by decide) ?_
      exact zj_iret d_Ma_arithmetic_89 rfl (Nat.zero_le _) (Nat.zero_le _) h
  have jgD : q_imp (x0 ≠ 12 ∧ x0 ≠ 13 ∧ x0 ≠ 14 ∧ x0 ≠ 15 ∧ x0 ≠ 16 ∧ x0 ≠ 17) (J ω m_Ma_arithmetic d mc ms 0 0 90 [(0, .int (zI x0)), (1, .int (zI x1)), (2, .int (zI x2)), (3, .int (zI x3))] [] σ Q) := by
    intro c
    have h := gD c
    refine j_iload_n d_Ma_arithmetic_90 2 rfl ?_
    obtain ⟨r11, h⟩ := h
    obtain ⟨h1, h2⟩ := h
    refine zj_if_ne 98 d_Ma_arithmetic_91 (by decide) r11 (fun k12 => ?_) (fun k12 => ?_)
    · have h := h1 k12
      refine j_iload_n d_Ma_arithmetic_98 1 rfl ?_
      refine j_iload_n d_Ma_arithmetic_99 2 rfl ?_
      obtain ⟨c13, h⟩ := h
      refine zj_irem d_Ma_arithmetic_100 c13 ?_
      exact zj_iret d_Ma_arithmetic_101 rfl (Nat.zero_le _) (Nat.zero_le _) h
    · have h := h2 k12
      refine j_iload_n d_Ma_arithmetic_94 1 rfl ?_
      refine j_goto 101 d_Ma_arithmetic_95 (by decide) ?_
      exact zj_iret d_Ma_arithmetic_101 rfl (Nat.zero_le _) (Nat.zero_le _) h
  by_cases cs12 : x0 = 12
  · exact j_topE (v := zI 12) (by rw [cs12]) (j_tabIn 40 d_Ma_arithmetic_1 (by decide) (by decide) rfl (by decide) (jg40 cs12))
  by_cases cs13 : x0 = 13
  · exact j_topE (v := zI 13) (by rw [cs13]) (j_tabIn 53 d_Ma_arithmetic_1 (by decide) (by decide) rfl (by decide) (jg53 cs13))
  by_cases cs14 : x0 = 14
  · exact j_topE (v := zI 14) (by rw [cs14]) (j_tabIn 66 d_Ma_arithmetic_1 (by decide) (by decide) rfl (by decide) (jg66 cs14))
  by_cases cs15 : x0 = 15
  · exact j_topE (v := zI 15) (by rw [cs15]) (j_tabIn 70 d_Ma_arithmetic_1 (by decide) (by decide) rfl (by decide) (jg70 cs15))
  by_cases cs16 : x0 = 16
  · exact j_topE (v := zI 16) (by rw [cs16]) (j_tabIn 74 d_Ma_arithmetic_1 (by decide) (by decide) rfl (by decide) (jg74 cs16))
  by_cases cs17 : x0 = 17
  · exact j_topE (v := zI 17) (by rw [cs17]) (j_tabIn 78 d_Ma_arithmetic_1 (by decide) (by decide) rfl (by decide) (jg78 cs17))
  exact j_tabOut 90 d_Ma_arithmetic_1 (by rw [zI_toInt r1]; exact o_Ma_arithmetic_1 cs12 cs13 cs14 cs15 cs16 cs17) (by decide) (jgD ⟨cs12, cs13, cs14, cs15, cs16, cs17⟩)
