/-! stretches of bytecode as conditions: Ma_forget Ma_execute Ma_enter -/
theorem d_Ma_execute_0 : decode m_Ma_execute.2.1 0 = .ok (.aload_n 0, 1) := by decide +kernel
theorem d_Ma_execute_1 : decode m_Ma_execute.2.1 1 = .ok (.invokevirtual 34, 3) := by decide +kernel
theorem d_Ma_execute_4 : decode m_Ma_execute.2.1 4 = .ok (.aload_n 0, 1) := by decide +kernel
theorem d_Ma_execute_5 : decode m_Ma_execute.2.1 5 = .ok (.aload_n 1, 1) := by decide +kernel
theorem d_Ma_execute_6 : decode m_Ma_execute.2.1 6 = .ok (.putfield 37, 3) := by decide +kernel
theorem d_Ma_execute_9 : decode m_Ma_execute.2.1 9 = .ok (.aload_n 0, 1) := by decide +kernel
theorem d_Ma_execute_10 : decode m_Ma_execute.2.1 10 = .ok (.aload_n 2, 1) := by decide +kernel
theorem d_Ma_execute_11 : decode m_Ma_execute.2.1 11 = .ok (.putfield 41, 3) := by decide +kernel
theorem d_Ma_execute_14 : decode m_Ma_execute.2.1 14 = .ok (.iconst 0, 1) := by decide +kernel
theorem d_Ma_execute_15 : decode m_Ma_execute.2.1 15 = .ok (.istore_n 3, 1) := by decide +kernel
theorem d_Ma_execute_16 : decode m_Ma_execute.2.1 16 = .ok (.iconst 0, 1) := by decide +kernel
theorem d_Ma_execute_17 : decode m_Ma_execute.2.1 17 = .ok (.istore 4, 2) := by decide +kernel
theorem d_Ma_execute_19 : decode m_Ma_execute.2.1 19 = .ok (.iload 4, 2) := by decide +kernel
theorem d_Ma_execute_21 : decode m_Ma_execute.2.1 21 = .ok (.ldc 44, 2) := by decide +kernel
theorem d_Ma_execute_23 : decode m_Ma_execute.2.1 23 = .ok (.if_icmp .ge 55, 3) := by decide +kernel
theorem d_Ma_execute_26 : decode m_Ma_execute.2.1 26 = .ok (.aload_n 0, 1) := by decide +kernel
theorem d_Ma_execute_27 : decode m_Ma_execute.2.1 27 = .ok (.getfield 31, 3) := by decide +kernel
theorem d_Ma_execute_30 : decode m_Ma_execute.2.1 30 = .ok (.ifCond .ne 48, 3) := by decide +kernel
theorem d_Ma_execute_33 : decode m_Ma_execute.2.1 33 = .ok (.iload_n 3, 1) := by decide +kernel
theorem d_Ma_execute_34 : decode m_Ma_execute.2.1 34 = .ok (.aload_n 0, 1) := by decide +kernel
theorem d_Ma_execute_35 : decode m_Ma_execute.2.1 35 = .ok (.getfield 37, 3) := by decide +kernel
theorem d_Ma_execute_38 : decode m_Ma_execute.2.1 38 = .ok (.getfield 45, 3) := by decide +kernel
theorem d_Ma_execute_41 : decode m_Ma_execute.2.1 41 = .ok (.if_icmp .ge 37, 3) := by decide +kernel
theorem d_Ma_execute_44 : decode m_Ma_execute.2.1 44 = .ok (.aload_n 0, 1) := by decide +kernel
theorem d_Ma_execute_45 : decode m_Ma_execute.2.1 45 = .ok (.iload_n 3, 1) := by decide +kernel
theorem d_Ma_execute_46 : decode m_Ma_execute.2.1 46 = .ok (.aload_n 0, 1) := by decide +kernel
theorem d_Ma_execute_47 : decode m_Ma_execute.2.1 47 = .ok (.aload_n 0, 1) := by decide +kernel
theorem d_Ma_execute_48 : decode m_Ma_execute.2.1 48 = .ok (.getfield 37, 3) := by decide +kernel
theorem d_Ma_execute_51 : decode m_Ma_execute.2.1 51 = .ok (.getfield 50, 3) := by decide +kernel
theorem d_Ma_execute_54 : decode m_Ma_execute.2.1 54 = .ok (.iload_n 3, 1) := by decide +kernel
theorem d_Ma_execute_55 : decode m_Ma_execute.2.1 55 = .ok (.iaload, 1) := by decide +kernel
theorem d_Ma_execute_56 : decode m_Ma_execute.2.1 56 = .ok (.aload_n 0, 1) := by decide +kernel
theorem d_Ma_execute_57 : decode m_Ma_execute.2.1 57 = .ok (.getfield 37, 3) := by decide +kernel
theorem d_Ma_execute_60 : decode m_Ma_execute.2.1 60 = .ok (.getfield 53, 3) := by decide +kernel
theorem d_Ma_execute_63 : decode m_Ma_execute.2.1 63 = .ok (.iload_n 3, 1) := by decide +kernel
theorem d_Ma_execute_64 : decode m_Ma_execute.2.1 64 = .ok (.iaload, 1) := by decide +kernel
theorem d_Ma_execute_65 : decode m_Ma_execute.2.1 65 = .ok (.invokevirtual 56, 3) := by decide +kernel
theorem d_Ma_execute_68 : decode m_Ma_execute.2.1 68 = .ok (.invokevirtual 60, 3) := by decide +kernel
theorem d_Ma_execute_71 : decode m_Ma_execute.2.1 71 = .ok (.istore_n 3, 1) := by decide +kernel
theorem d_Ma_execute_72 : decode m_Ma_execute.2.1 72 = .ok (.iinc 4 1, 3) := by decide +kernel
theorem d_Ma_execute_75 : decode m_Ma_execute.2.1 75 = .ok (.goto (-56), 3) := by decide +kernel
theorem d_Ma_execute_78 : decode m_Ma_execute.2.1 78 = .ok (.return_, 1) := by decide +kernel
theorem d_Ma_enter_0 : decode m_Ma_enter.2.1 0 = .ok (.aload_n 0, 1) := by decide +kernel
theorem d_Ma_enter_1 : decode m_Ma_enter.2.1 1 = .ok (.getfield 19, 3) := by decide +kernel
theorem d_Ma_enter_4 : decode m_Ma_enter.2.1 4 = .ok (.iload_n 2, 1) := by decide +kernel
theorem d_Ma_enter_5 : decode m_Ma_enter.2.1 5 = .ok (.iaload, 1) := by decide +kernel
theorem d_Ma_enter_6 : decode m_Ma_enter.2.1 6 = .ok (.ifCond .ne 8, 3) := by decide +kernel
theorem d_Ma_enter_9 : decode m_Ma_enter.2.1 9 = .ok (.aload_n 0, 1) := by decide +kernel
theorem d_Ma_enter_10 : decode m_Ma_enter.2.1 10 = .ok (.iconst 2, 1) := by decide +kernel
theorem d_Ma_enter_11 : decode m_Ma_enter.2.1 11 = .ok (.putfield 31, 3) := by decide +kernel
theorem d_Ma_enter_14 : decode m_Ma_enter.2.1 14 = .ok (.aload_n 0, 1) := by decide +kernel
theorem d_Ma_enter_15 : decode m_Ma_enter.2.1 15 = .ok (.getfield 19, 3) := by decide +kernel
theorem d_Ma_enter_18 : decode m_Ma_enter.2.1 18 = .ok (.iload_n 2, 1) := by decide +kernel
theorem d_Ma_enter_19 : decode m_Ma_enter.2.1 19 = .ok (.dup2, 1) := by decide +kernel
theorem d_Ma_enter_20 : decode m_Ma_enter.2.1 20 = .ok (.iaload, 1) := by decide +kernel
theorem d_Ma_enter_21 : decode m_Ma_enter.2.1 21 = .ok (.iconst 1, 1) := by decide +kernel
theorem d_Ma_enter_22 : decode m_Ma_enter.2.1 22 = .ok (.isub, 1) := by decide +kernel
theorem d_Ma_enter_23 : decode m_Ma_enter.2.1 23 = .ok (.iastore, 1) := by decide +kernel
theorem d_Ma_enter_24 : decode m_Ma_enter.2.1 24 = .ok (.iload_n 1, 1) := by decide +kernel
theorem d_Ma_enter_25 : decode m_Ma_enter.2.1 25 = .ok (.iconst 1, 1) := by decide +kernel
theorem d_Ma_enter_26 : decode m_Ma_enter.2.1 26 = .ok (.iadd, 1) := by decide +kernel
theorem d_Ma_enter_27 : decode m_Ma_enter.2.1 27 = .ok (.ireturn, 1) := by decide +kernel
theorem cV_Ma_34 : q_CV "ProofHall$Machine" 34 4 m_Ma_forget 0 := ⟨⟨cd_Ma_forget, by decide, by decide, by decide, by decide +kernel⟩, Or.inl (List.mem_of_getElem? (i := 1342) (by decide +kernel)), List.mem_of_getElem? (i := 995) (by decide +kernel), _, _, _, rfl, List.mem_append_right _ (List.mem_of_getElem? (i := 996) (by decide +kernel))⟩
theorem g_Ma_37 (nm : String) : q_GR "ProofHall$Machine" 37 4 5 nm := ⟨"LProofHall$Program;", by decide, ⟨_, _, _, rfl, by decide, rfl, List.mem_of_getElem? (i := 322) (by decide +kernel), Or.inl rfl⟩⟩
theorem g_Ma_41 (nm : String) : q_GR "ProofHall$Machine" 41 4 6 nm := ⟨"[I", by decide, ⟨_, _, _, rfl, by decide, rfl, List.mem_of_getElem? (i := 323) (by decide +kernel), Or.inl rfl⟩⟩
theorem k_Ma_44 : Cond.constant "ProofHall$Machine" 44 1000000 ∈ tables_1 := List.mem_of_getElem? (i := 1343) (by decide +kernel)
theorem f_Ma_31 : q_F "ProofHall$Machine" 31 4 0 "I" := ⟨_, _, _, rfl, by decide, rfl, Or.inl (List.mem_of_getElem? (i := 312) (by decide +kernel))⟩
theorem f_Ma_45 : q_F "ProofHall$Machine" 45 2 11 "I" := ⟨_, _, _, rfl, by decide, rfl, Or.inl (List.mem_of_getElem? (i := 230) (by decide +kernel))⟩
theorem f_Ma_50 : q_FR "ProofHall$Machine" 50 2 14 := ⟨"[I", by decide, ⟨_, _, _, rfl, by decide, rfl, Or.inl (List.mem_of_getElem? (i := 240) (by decide +kernel))⟩⟩
theorem f_Ma_53 : q_FR "ProofHall$Machine" 53 2 15 := ⟨"[I", by decide, ⟨_, _, _, rfl, by decide, rfl, Or.inl (List.mem_of_getElem? (i := 243) (by decide +kernel))⟩⟩
theorem cd_Ma_worth : q_cd m_Ma_worth := ⟨by decide +kernel, List.mem_of_getElem? (i := 9) (by decide +kernel), Or.inl ⟨rfl, List.mem_of_getElem? (i := 1347) (by decide +kernel)⟩⟩
theorem cV_Ma_56 : q_CV "ProofHall$Machine" 56 4 m_Ma_worth 2 := ⟨⟨cd_Ma_worth, by decide, by decide, by decide, by decide +kernel⟩, Or.inl (List.mem_of_getElem? (i := 1344) (by decide +kernel)), List.mem_of_getElem? (i := 1346) (by decide +kernel), _, _, _, rfl, by decide +kernel⟩
theorem cd_Ma_perform : q_cd m_Ma_perform := ⟨by decide +kernel, List.mem_of_getElem? (i := 9) (by decide +kernel), Or.inl ⟨rfl, List.mem_of_getElem? (i := 1370) (by decide +kernel)⟩⟩
theorem cV_Ma_60 : q_CV "ProofHall$Machine" 60 4 m_Ma_perform 2 := ⟨⟨cd_Ma_perform, by decide, by decide, by decide, by decide +kernel⟩, Or.inl (List.mem_of_getElem? (i := 1367) (by decide +kernel)), List.mem_of_getElem? (i := 1369) (by decide +kernel), _, _, _, rfl, by decide +kernel⟩
set_option maxHeartbeats 2000000 in
theorem b_Ma_forget_0 {ω : q_W} {σ : q_H} {Q : q_R → q_H → Prop} {d mc ms : Nat}  {m : Nat} (hm : m = 43 ∨ m = 87) {p : Nat} (hp : p = 16 ∨ p = 29) {w : Nat} (hw : w = 42 ∨ w = 91) (rm5 : q_r σ m 5 = p) (rm6 : q_r σ m 6 = w) (hE : q_E σ) (h : (Q (.inl none) (zs (zs (zfl σ (m + 1) 12 0) m 0 0) m 1 (-1)))) : J ω m_Ma_forget (d + 1) mc ms 0 0 0 [(0, .ref m)] [] σ Q := by
  refine j_aload_n d_Ma_forget_0 0 rfl ?_
  refine j_getR (m + 1) f_Ma_15 d_Ma_forget_1 (tY_m_0 hE hm) (q_okE hE (by omega)) (rY_m_2 hE hm) (by omega) ?_
  refine j_iconst (v := zI 0) d_Ma_forget_4 (by decide) ?_
  refine j_callS m_JA_fill [.ref (m + 1), .int (zI 0)] [] 0 0 0 cS_Ma_25 d_Ma_forget_5 rfl rfl (Nat.le_of_ble_eq_true rfl) (Nat.succ_le_succ (Nat.zero_le _)) (Nat.le_of_ble_eq_true rfl) (Nat.zero_le _) (Nat.zero_le _) (c_JA_fill (tY_m_1 hE hm) (q_okE hE (by omega)) (by decide) (by decide) _) (fun v τ h => ?_) (fun x τ h => absurd h.1 (by simp))
  obtain ⟨e1, e2⟩ := h; cases e1; rw [e2]
  refine j_aload_n d_Ma_forget_8 0 rfl ?_
  refine j_iconst (v := zI 0) d_Ma_forget_9 (by decide) ?_
  refine zj_putI (g_Ma_31 _) d_Ma_forget_10 (tY_m_0 (zfl_E hE) hm) (q_okE (zfl_E hE) (by omega)) ?_
  refine j_aload_n d_Ma_forget_13 0 rfl ?_
  refine j_iconst (v := zI (-1)) d_Ma_forget_14 (by decide) ?_
  refine zj_putI (g_Ma_9 _) d_Ma_forget_15 (tY_m_0 (zs_E (zfl_E hE)) hm) (q_okE (zs_E (zfl_E hE)) (by omega)) ?_
  exact j_vret d_Ma_forget_18 rfl (Nat.zero_le _) (Nat.zero_le _) h
set_option maxHeartbeats 2000000 in
theorem b_Ma_execute_0 {ω : q_W} {σ : q_H} {Q : q_R → q_H → Prop} {d mc ms : Nat}  {m : Nat} (hm : m = 43 ∨ m = 87) {p : Nat} (hp : p = 16 ∨ p = 29) {w : Nat} (hw : w = 42 ∨ w = 91) (rm5 : q_r σ m 5 = p) (rm6 : q_r σ m 6 = w) (hE : q_E σ) (h : (J ω m_Ma_forget d 0 0 0 0 0 [(0, .ref m)] [] σ (q_kv (fun τ => J ω m_Ma_execute (d + 1) mc ms 0 0 4 [(0, .ref m), (1, .ref p), (2, .ref w)] [] τ Q)))) : J ω m_Ma_execute (d + 1) mc ms 0 0 0 [(0, .ref m), (1, .ref p), (2, .ref w)] [] σ Q := by
  refine j_aload_n d_Ma_execute_0 0 rfl ?_
  refine j_callV m_Ma_forget [] [] d 0 0 cV_Ma_34 d_Ma_execute_1 rfl rfl (tY_m_0 hE hm) (q_okE hE (by omega)) (Nat.le_of_ble_eq_true rfl) (Nat.le_refl _) (Nat.le_of_ble_eq_true rfl) (Nat.zero_le _) (Nat.zero_le _) h (fun v τ h => ?_) (fun x τ h => ?_)
  · obtain ⟨e1, h⟩ := h; cases e1; exact j_sel [0, 1, 2] rfl h
  · obtain ⟨e1, h⟩ := h; cases e1
set_option maxHeartbeats 2000000 in
theorem b_Ma_execute_4 {ω : q_W} {σ : q_H} {Q : q_R → q_H → Prop} {d mc ms : Nat}  {m : Nat} (hm : m = 43 ∨ m = 87) {p : Nat} (hp : p = 16 ∨ p = 29) {w : Nat} (hw : w = 42 ∨ w = 91) (rm5 : q_r σ m 5 = p) (rm6 : q_r σ m 6 = w) (hE : q_E σ) (h : (J ω m_Ma_execute (d + 1) mc ms 0 0 19 [(0, .ref m), (3, .int (zI 0)), (4, .int (zI 0))] [] (zr (zr σ m 5 p) m 6 w) Q)) : J ω m_Ma_execute (d + 1) mc ms 0 0 4 [(0, .ref m), (1, .ref p), (2, .ref w)] [] σ Q := by
  refine j_aload_n d_Ma_execute_4 0 rfl ?_
  refine j_aload_n d_Ma_execute_5 1 rfl ?_
  refine zj_putR (g_Ma_37 _) d_Ma_execute_6 (tY_m_0 hE hm) (q_okE hE (by omega)) (by omega) ?_
  refine j_aload_n d_Ma_execute_9 0 rfl ?_
  refine j_aload_n d_Ma_execute_10 2 rfl ?_
  refine zj_putR (g_Ma_41 _) d_Ma_execute_11 (tY_m_0 (zr_E hE (by rcases hm with rfl | rfl <;> rfl)) hm) (q_okE (zr_E hE (by rcases hm with rfl | rfl <;> rfl)) (by omega)) (by omega) ?_
  refine j_iconst (v := zI 0) d_Ma_execute_14 (by decide) ?_
  refine j_istore_n (L' := [(3, .int (zI 0)), (0, .ref m), (1, .ref p), (2, .ref w)]) d_Ma_execute_15 (by decide) rfl ?_
  refine j_iconst (v := zI 0) d_Ma_execute_16 (by decide) ?_
  refine j_istore (L' := [(4, .int (zI 0)), (3, .int (zI 0)), (0, .ref m), (1, .ref p), (2, .ref w)]) d_Ma_execute_17 (by decide) rfl ?_
  exact j_sel [2, 1, 0] rfl h
set_option maxHeartbeats 2000000 in
theorem b_Ma_execute_19 {ω : q_W} {σ : q_H} {Q : q_R → q_H → Prop} {d mc ms : Nat} {x3 : Int} {x4 : Int} {m : Nat} (hm : m = 43 ∨ m = 87) {p : Nat} (hp : p = 16 ∨ p = 29) {w : Nat} (hw : w = 42 ∨ w = 91) (rm5 : q_r σ m 5 = p) (rm6 : q_r σ m 6 = w) (hE : q_E σ) (h : inR x4 ∧ q_imp (x4 ≥ 1000000) ((Q (.inl none) σ)) ∧ q_imp (x4 < 1000000) (q_imp ((z σ m 0) ≠ 0) ((Q (.inl none) σ)) ∧ q_imp ((z σ m 0) = 0) (inR x3 ∧ q_imp (x3 ≥ (z σ p 11)) ((Q (.inl none) σ)) ∧ q_imp (x3 < (z σ p 11)) ((0 ≤ x3 ∧ x3 < 2048) ∧ (J ω m_Ma_worth d 0 0 0 0 0 [(0, .ref m), (1, .int (zI (z σ (p + 7) x3.toNat))), (2, .int (zI (z σ (p + 8) x3.toNat)))] [] σ (q_ki (fun v τ => J ω m_Ma_execute (d + 1) mc ms 0 0 68 [(0, .ref m), (4, .int (zI x4))] [.int (zI v), .int (zI x3), .ref m] τ Q))))))) : J ω m_Ma_execute (d + 1) mc ms 0 0 19 [(0, .ref m), (3, .int (zI x3)), (4, .int (zI x4))] [] σ Q := by
  refine j_iload d_Ma_execute_19 2 rfl ?_
  refine j_ldc (v := 1000000) k_Ma_44 d_Ma_execute_21 ?_
  refine j_topE (v := zI 1000000) (by decide) ?_
  obtain ⟨r1, h⟩ := h
  obtain ⟨h1, h2⟩ := h
  refine zj_icmp_ge 78 d_Ma_execute_23 (by decide) r1 ⟨by decide, by decide⟩ (fun k2 => ?_) (fun k2 => ?_)
  · have h := h1 k2
    exact j_vret d_Ma_execute_78 rfl (Nat.zero_le _) (Nat.zero_le _) h
  · have h := h2 k2
    refine j_aload_n d_Ma_execute_26 0 rfl ?_
    refine zj_getI (z σ m 0) f_Ma_31 d_Ma_execute_27 (tY_m_0 hE hm) (q_okE hE (by omega)) (q_z _ _ _) ?_
    obtain ⟨h1, h2⟩ := h
    refine zj_if_ne 78 d_Ma_execute_30 (by decide) (z_R _ _ _) (fun k3 => ?_) (fun k3 => ?_)
    · have h := h1 k3
      exact j_vret d_Ma_execute_78 rfl (Nat.zero_le _) (Nat.zero_le _) h
    · have h := h2 k3
      refine j_iload_n d_Ma_execute_33 1 rfl ?_
      refine j_aload_n d_Ma_execute_34 0 rfl ?_
      refine j_getR p f_Ma_37 d_Ma_execute_35 (tY_m_0 hE hm) (q_okE hE (by omega)) (rm5) (by omega) ?_
      refine zj_getI (z σ p 11) f_Ma_45 d_Ma_execute_38 (tY_p_0 hE hp) (q_okE hE (by omega)) (q_z _ _ _) ?_
      obtain ⟨r4, h⟩ := h
      obtain ⟨h1, h2⟩ := h
      refine zj_icmp_ge 78 d_Ma_execute_41 (by decide) r4 (z_R _ _ _) (fun k5 => ?_) (fun k5 => ?_)
      · have h := h1 k5
        exact j_vret d_Ma_execute_78 rfl (Nat.zero_le _) (Nat.zero_le _) h
      · have h := h2 k5
        refine j_aload_n d_Ma_execute_44 0 rfl ?_
        refine j_iload_n d_Ma_execute_45 1 rfl ?_
        refine j_aload_n d_Ma_execute_46 0 rfl ?_
        refine j_aload_n d_Ma_execute_47 0 rfl ?_
        refine j_getR p f_Ma_37 d_Ma_execute_48 (tY_m_0 hE hm) (q_okE hE (by omega)) (rm5) (by omega) ?_
        refine j_getR (p + 7) f_Ma_50 d_Ma_execute_51 (tY_p_0 hE hp) (q_okE hE (by omega)) (rY_p_14 hE hp) (by omega) ?_
        refine j_iload_n d_Ma_execute_54 1 rfl ?_
        obtain ⟨c6, h⟩ := h
        refine zj_iald (z σ (p + 7) x3.toNat) d_Ma_execute_55 (tY_p_7 hE hp) (q_okE hE (by omega)) c6 (by decide) (q_z _ _ _) ?_
        refine j_aload_n d_Ma_execute_56 0 rfl ?_
        refine j_getR p f_Ma_37 d_Ma_execute_57 (tY_m_0 hE hm) (q_okE hE (by omega)) (rm5) (by omega) ?_
        refine j_getR (p + 8) f_Ma_53 d_Ma_execute_60 (tY_p_0 hE hp) (q_okE hE (by omega)) (rY_p_15 hE hp) (by omega) ?_
        refine j_iload_n d_Ma_execute_63 1 rfl ?_
        refine zj_iald (z σ (p + 8) x3.toNat) d_Ma_execute_64 (tY_p_8 hE hp) (q_okE hE (by omega)) c6 (by decide) (q_z _ _ _) ?_
        refine j_callV m_Ma_worth [.int (zI (z σ (p + 7) x3.toNat)), .int (zI (z σ (p + 8) x3.toNat))] [.int (zI x3), .ref m] d 0 0 cV_Ma_56 d_Ma_execute_65 rfl rfl (tY_m_0 hE hm) (q_okE hE (by omega)) (Nat.le_of_ble_eq_true rfl) (Nat.le_refl _) (Nat.le_of_ble_eq_true rfl) (Nat.zero_le _) (Nat.zero_le _) h (fun v τ h => ?_) (fun x τ h => ?_)
        · obtain ⟨v, hv, e1, h⟩ := h; cases e1; exact j_sel [0, 2] rfl h
        · obtain ⟨v, hv, e1, h⟩ := h; cases e1
set_option maxHeartbeats 2000000 in
theorem b_Ma_execute_68 {ω : q_W} {σ : q_H} {Q : q_R → q_H → Prop} {d mc ms : Nat} {x4 : Int} {y0 : Int} {y1 : Int} {m : Nat} (hm : m = 43 ∨ m = 87) {p : Nat} (hp : p = 16 ∨ p = 29) {w : Nat} (hw : w = 42 ∨ w = 91) (rm5 : q_r σ m 5 = p) (rm6 : q_r σ m 6 = w) (hE : q_E σ) (h : (J ω m_Ma_perform d 0 0 0 0 0 [(0, .ref m), (1, .int (zI y1)), (2, .int (zI y0))] [] σ (q_ki (fun v τ => J ω m_Ma_execute (d + 1) mc ms 0 0 71 [(0, .ref m), (4, .int (zI x4))] [.int (zI v)] τ Q)))) : J ω m_Ma_execute (d + 1) mc ms 0 0 68 [(0, .ref m), (4, .int (zI x4))] [.int (zI y0), .int (zI y1), .ref m] σ Q := by
  refine j_callV m_Ma_perform [.int (zI y1), .int (zI y0)] [] d 0 0 cV_Ma_60 d_Ma_execute_68 rfl rfl (tY_m_0 hE hm) (q_okE hE (by omega)) (Nat.le_of_ble_eq_true rfl) (Nat.le_refl _) (Nat.le_of_ble_eq_true rfl) (Nat.zero_le _) (Nat.zero_le _) h (fun v τ h => ?_) (fun x τ h => ?_)
  · obtain ⟨v, hv, e1, h⟩ := h; cases e1; exact j_sel [0, 1] rfl h
  · obtain ⟨v, hv, e1, h⟩ := h; cases e1
set_option maxHeartbeats 2000000 in
theorem b_Ma_execute_71 {ω : q_W} {σ : q_H} {Q : q_R → q_H → Prop} {d mc ms : Nat} {x4 : Int} {y0 : Int} {m : Nat} (hm : m = 43 ∨ m = 87) {p : Nat} (hp : p = 16 ∨ p = 29) {w : Nat} (hw : w = 42 ∨ w = 91) (rm5 : q_r σ m 5 = p) (rm6 : q_r σ m 6 = w) (hE : q_E σ) (h : (J ω m_Ma_execute (d + 1) mc ms 0 0 19 [(0, .ref m), (3, .int (zI y0)), (4, .int (zI (x4 + 1)))] [] σ Q)) : J ω m_Ma_execute (d + 1) mc ms 0 0 71 [(0, .ref m), (4, .int (zI x4))] [.int (zI y0)] σ Q := by
  refine j_istore_n (L' := [(3, .int (zI y0)), (0, .ref m), (4, .int (zI x4))]) d_Ma_execute_71 (by decide) rfl ?_
  refine zj_iinc (L' := [(4, .int (zI (x4 + 1))), (3, .int (zI y0)), (0, .ref m)]) (x4 + 1) d_Ma_execute_72 2 rfl (by omega) (by decide) rfl ?_
  refine j_goto 19 d_Ma_execute_75 (by decide) ?_
  exact j_sel [2, 1, 0] rfl h
set_option maxHeartbeats 2000000 in
theorem b_Ma_enter_0 {ω : q_W} {σ : q_H} {Q : q_R → q_H → Prop} {d mc ms : Nat} {x1 : Int} {x2 : Int} {m : Nat} (hm : m = 43 ∨ m = 87) {p : Nat} (hp : p = 16 ∨ p = 29) {w : Nat} (hw : w = 42 ∨ w = 91) (rm5 : q_r σ m 5 = p) (rm6 : q_r σ m 6 = w) (hE : q_E σ) (h : (0 ≤ x2 ∧ x2 < 32) ∧ q_imp ((z σ (m + 2) x2.toNat) ≠ 0) ((J ω m_Ma_enter d mc ms 0 0 14 [(0, .ref m), (1, .int (zI x1)), (2, .int (zI x2))] [] σ Q)) ∧ q_imp ((z σ (m + 2) x2.toNat) = 0) ((J ω m_Ma_enter d mc ms 0 0 14 [(0, .ref m), (1, .int (zI x1)), (2, .int (zI x2))] [] (zs σ m 0 2) Q))) : J ω m_Ma_enter d mc ms 0 0 0 [(0, .ref m), (1, .int (zI x1)), (2, .int (zI x2))] [] σ Q := by
  refine j_aload_n d_Ma_enter_0 0 rfl ?_
  refine j_getR (m + 2) f_Ma_19 d_Ma_enter_1 (tY_m_0 hE hm) (q_okE hE (by omega)) (rY_m_3 hE hm) (by omega) ?_
  refine j_iload_n d_Ma_enter_4 2 rfl ?_
  obtain ⟨c1, h⟩ := h
  refine zj_iald (z σ (m + 2) x2.toNat) d_Ma_enter_5 (tY_m_2 hE hm) (q_okE hE (by omega)) c1 (by decide) (q_z _ _ _) ?_
  obtain ⟨h1, h2⟩ := h
  refine zj_if_ne 14 d_Ma_enter_6 (by decide) (z_R _ _ _) (fun k2 => ?_) (fun k2 => ?_)
  · have h := h1 k2
    exact j_sel [0, 1, 2] rfl h
  · have h := h2 k2
    refine j_aload_n d_Ma_enter_9 0 rfl ?_
    refine j_iconst (v := zI 2) d_Ma_enter_10 (by decide) ?_
    refine zj_putI (g_Ma_31 _) d_Ma_enter_11 (tY_m_0 hE hm) (q_okE hE (by omega)) ?_
    exact j_sel [0, 1, 2] rfl h
set_option maxHeartbeats 2000000 in
theorem b_Ma_enter_14 {ω : q_W} {σ : q_H} {Q : q_R → q_H → Prop} {d mc ms : Nat} {x1 : Int} {x2 : Int} {m : Nat} (hm : m = 43 ∨ m = 87) {p : Nat} (hp : p = 16 ∨ p = 29) {w : Nat} (hw : w = 42 ∨ w = 91) (rm5 : q_r σ m 5 = p) (rm6 : q_r σ m 6 = w) (hE : q_E σ) (h : (0 ≤ x2 ∧ x2 < 32) ∧ (Q (.inl (some (.int (zI (x1 + 1))))) (zs σ (m + 2) x2.toNat ((z σ (m + 2) x2.toNat) - 1)))) : J ω m_Ma_enter d mc ms 0 0 14 [(0, .ref m), (1, .int (zI x1)), (2, .int (zI x2))] [] σ Q := by
  refine j_aload_n d_Ma_enter_14 0 rfl ?_
  refine j_getR (m + 2) f_Ma_19 d_Ma_enter_15 (tY_m_0 hE hm) (q_okE hE (by omega)) (rY_m_3 hE hm) (by omega) ?_
  refine j_iload_n d_Ma_enter_18 2 rfl ?_
  refine j_dup2 d_Ma_enter_19 rfl rfl ?_
  obtain ⟨c3, h⟩ := h
  refine zj_iald (z σ (m + 2) x2.toNat) d_Ma_enter_20 (tY_m_2 hE hm) (q_okE hE (by omega)) c3 (by decide) (q_z _ _ _) ?_
  refine j_iconst (v := zI 1) d_Ma_enter_21 (by decide) ?_
  refine zj_isub ((z σ (m + 2) x2.toNat) - 1) (by omega) d_Ma_enter_22 ?_
  refine zj_iast d_Ma_enter_23 (tY_m_2 hE hm) (q_okE hE (by omega)) c3 (by decide) ?_
  refine j_iload_n d_Ma_enter_24 1 rfl ?_
  refine j_iconst (v := zI 1) d_Ma_enter_25 (by decide) ?_
  refine zj_iadd (x1 + 1) (by omega) d_Ma_enter_26 ?_
  exact zj_iret d_Ma_enter_27 rfl (Nat.zero_le _) (Nat.zero_le _) h
