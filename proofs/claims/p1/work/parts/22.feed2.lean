theorem d_H_feed_0 : decode m_H_feed.2.1 0 = .ok (.aload_n 0, 1) := by decide +kernel
theorem d_H_feed_1 : decode m_H_feed.2.1 1 = .ok (.getfield 10, 3) := by decide +kernel
theorem d_H_feed_4 : decode m_H_feed.2.1 4 = .ok (.getfield 55, 3) := by decide +kernel
theorem d_H_feed_7 : decode m_H_feed.2.1 7 = .ok (.bipush 20, 2) := by decide +kernel
theorem d_H_feed_9 : decode m_H_feed.2.1 9 = .ok (.iadd, 1) := by decide +kernel
theorem d_H_feed_10 : decode m_H_feed.2.1 10 = .ok (.sipush 4096, 3) := by decide +kernel
theorem d_H_feed_13 : decode m_H_feed.2.1 13 = .ok (.if_icmp .le 11, 3) := by decide +kernel
theorem d_H_feed_16 : decode m_H_feed.2.1 16 = .ok (.new 58, 3) := by decide +kernel
theorem d_H_feed_19 : decode m_H_feed.2.1 19 = .ok (.dup, 1) := by decide +kernel
theorem d_H_feed_20 : decode m_H_feed.2.1 20 = .ok (.invokespecial 60, 3) := by decide +kernel
theorem d_H_feed_23 : decode m_H_feed.2.1 23 = .ok (.athrow, 1) := by decide +kernel
theorem d_H_feed_24 : decode m_H_feed.2.1 24 = .ok (.aload_n 0, 1) := by decide +kernel
theorem d_H_feed_25 : decode m_H_feed.2.1 25 = .ok (.getfield 10, 3) := by decide +kernel
theorem d_H_feed_28 : decode m_H_feed.2.1 28 = .ok (.iload_n 1, 1) := by decide +kernel
theorem d_H_feed_29 : decode m_H_feed.2.1 29 = .ok (.invokevirtual 61, 3) := by decide +kernel
theorem d_H_feed_32 : decode m_H_feed.2.1 32 = .ok (.aload_n 0, 1) := by decide +kernel
theorem d_H_feed_33 : decode m_H_feed.2.1 33 = .ok (.getfield 10, 3) := by decide +kernel
theorem d_H_feed_36 : decode m_H_feed.2.1 36 = .ok (.iload_n 2, 1) := by decide +kernel
theorem d_H_feed_37 : decode m_H_feed.2.1 37 = .ok (.invokevirtual 61, 3) := by decide +kernel
theorem d_H_feed_40 : decode m_H_feed.2.1 40 = .ok (.aload_n 0, 1) := by decide +kernel
theorem d_H_feed_41 : decode m_H_feed.2.1 41 = .ok (.getfield 10, 3) := by decide +kernel
theorem d_H_feed_44 : decode m_H_feed.2.1 44 = .ok (.iload_n 3, 1) := by decide +kernel
theorem d_H_feed_45 : decode m_H_feed.2.1 45 = .ok (.invokevirtual 61, 3) := by decide +kernel
theorem d_H_feed_48 : decode m_H_feed.2.1 48 = .ok (.aload_n 0, 1) := by decide +kernel
theorem d_H_feed_49 : decode m_H_feed.2.1 49 = .ok (.getfield 10, 3) := by decide +kernel
theorem d_H_feed_52 : decode m_H_feed.2.1 52 = .ok (.iload 4, 2) := by decide +kernel
theorem d_H_feed_54 : decode m_H_feed.2.1 54 = .ok (.invokevirtual 61, 3) := by decide +kernel
theorem d_H_feed_57 : decode m_H_feed.2.1 57 = .ok (.aload_n 0, 1) := by decide +kernel
theorem d_H_feed_58 : decode m_H_feed.2.1 58 = .ok (.getfield 10, 3) := by decide +kernel
theorem d_H_feed_61 : decode m_H_feed.2.1 61 = .ok (.iload 5, 2) := by decide +kernel
theorem d_H_feed_63 : decode m_H_feed.2.1 63 = .ok (.invokevirtual 61, 3) := by decide +kernel
theorem d_H_feed_66 : decode m_H_feed.2.1 66 = .ok (.aload_n 0, 1) := by decide +kernel
theorem d_H_feed_67 : decode m_H_feed.2.1 67 = .ok (.getfield 10, 3) := by decide +kernel
theorem d_H_feed_70 : decode m_H_feed.2.1 70 = .ok (.getfield 55, 3) := by decide +kernel
theorem d_H_feed_73 : decode m_H_feed.2.1 73 = .ok (.ireturn, 1) := by decide +kernel
theorem d_M_no_0 : decode m_M_no.2.1 0 = .ok (.aload_n 0, 1) := by decide +kernel
theorem d_M_no_1 : decode m_M_no.2.1 1 = .ok (.iload_n 1, 1) := by decide +kernel
theorem d_M_no_2 : decode m_M_no.2.1 2 = .ok (.putfield 141, 3) := by decide +kernel
theorem d_M_no_5 : decode m_M_no.2.1 5 = .ok (.iconst 0, 1) := by decide +kernel
theorem d_M_no_6 : decode m_M_no.2.1 6 = .ok (.ireturn, 1) := by decide +kernel
theorem d_M_feed_0 : decode m_M_feed.2.1 0 = .ok (.aload_n 0, 1) := by decide +kernel
theorem d_M_feed_1 : decode m_M_feed.2.1 1 = .ok (.getfield 144, 3) := by decide +kernel
theorem d_M_feed_4 : decode m_M_feed.2.1 4 = .ok (.bipush 20, 2) := by decide +kernel
theorem d_M_feed_6 : decode m_M_feed.2.1 6 = .ok (.iadd, 1) := by decide +kernel
theorem d_M_feed_7 : decode m_M_feed.2.1 7 = .ok (.sipush 4096, 3) := by decide +kernel
theorem d_M_feed_10 : decode m_M_feed.2.1 10 = .ok (.if_icmp .le 9, 3) := by decide +kernel
theorem d_M_feed_13 : decode m_M_feed.2.1 13 = .ok (.aload_n 0, 1) := by decide +kernel
theorem d_M_feed_14 : decode m_M_feed.2.1 14 = .ok (.iconst 1, 1) := by decide +kernel
theorem d_M_feed_15 : decode m_M_feed.2.1 15 = .ok (.invokevirtual 147, 3) := by decide +kernel
theorem d_M_feed_18 : decode m_M_feed.2.1 18 = .ok (.ireturn, 1) := by decide +kernel
theorem d_M_feed_19 : decode m_M_feed.2.1 19 = .ok (.aload_n 0, 1) := by decide +kernel
theorem d_M_feed_20 : decode m_M_feed.2.1 20 = .ok (.iconst 0, 1) := by decide +kernel
theorem d_M_feed_21 : decode m_M_feed.2.1 21 = .ok (.putfield 141, 3) := by decide +kernel
theorem d_M_feed_24 : decode m_M_feed.2.1 24 = .ok (.aload_n 0, 1) := by decide +kernel
theorem d_M_feed_25 : decode m_M_feed.2.1 25 = .ok (.iload_n 1, 1) := by decide +kernel
theorem d_M_feed_26 : decode m_M_feed.2.1 26 = .ok (.invokevirtual 151, 3) := by decide +kernel
theorem d_M_feed_29 : decode m_M_feed.2.1 29 = .ok (.aload_n 0, 1) := by decide +kernel
theorem d_M_feed_30 : decode m_M_feed.2.1 30 = .ok (.iload_n 2, 1) := by decide +kernel
theorem d_M_feed_31 : decode m_M_feed.2.1 31 = .ok (.invokevirtual 151, 3) := by decide +kernel
theorem d_M_feed_34 : decode m_M_feed.2.1 34 = .ok (.aload_n 0, 1) := by decide +kernel
theorem d_M_feed_35 : decode m_M_feed.2.1 35 = .ok (.iload_n 3, 1) := by decide +kernel
theorem d_M_feed_36 : decode m_M_feed.2.1 36 = .ok (.invokevirtual 151, 3) := by decide +kernel
theorem d_M_feed_39 : decode m_M_feed.2.1 39 = .ok (.aload_n 0, 1) := by decide +kernel
theorem d_M_feed_40 : decode m_M_feed.2.1 40 = .ok (.iload 4, 2) := by decide +kernel
theorem d_M_feed_42 : decode m_M_feed.2.1 42 = .ok (.invokevirtual 151, 3) := by decide +kernel
theorem d_M_feed_45 : decode m_M_feed.2.1 45 = .ok (.aload_n 0, 1) := by decide +kernel
theorem d_M_feed_46 : decode m_M_feed.2.1 46 = .ok (.iload 5, 2) := by decide +kernel
theorem d_M_feed_48 : decode m_M_feed.2.1 48 = .ok (.invokevirtual 151, 3) := by decide +kernel
theorem d_M_feed_51 : decode m_M_feed.2.1 51 = .ok (.aload_n 0, 1) := by decide +kernel
theorem d_M_feed_52 : decode m_M_feed.2.1 52 = .ok (.getfield 144, 3) := by decide +kernel
theorem d_M_feed_55 : decode m_M_feed.2.1 55 = .ok (.ireturn, 1) := by decide +kernel
theorem f_H_10 : q_FR "ProofHall" 10 0 0 := ⟨"LProofHall$Scanner;", by decide, ⟨_, _, _, rfl, by decide, rfl, Or.inl (List.mem_of_getElem? (i := 619) (by decide +kernel))⟩⟩
theorem f_H_55 : q_F "ProofHall" 55 1 2 "I" := ⟨_, _, _, rfl, by decide, rfl, Or.inl (List.mem_of_getElem? (i := 106) (by decide +kernel))⟩
theorem cd_Sc_append : q_cd m_Sc_append := ⟨by decide +kernel, List.mem_of_getElem? (i := 2) (by decide +kernel), Or.inl ⟨rfl, List.mem_of_getElem? (i := 742) (by decide +kernel)⟩⟩
theorem cV_H_61 : q_CV "ProofHall" 61 1 m_Sc_append 1 := ⟨⟨cd_Sc_append, by decide, by decide, by decide, by decide +kernel⟩, Or.inl (List.mem_of_getElem? (i := 739) (by decide +kernel)), List.mem_of_getElem? (i := 740) (by decide +kernel), _, _, _, rfl, List.mem_append_right _ (List.mem_of_getElem? (i := 741) (by decide +kernel))⟩
theorem x_H_60 : q_X "ProofHall" 60 "java/lang/IndexOutOfBoundsException" := ⟨by decide +kernel, by decide +kernel⟩
theorem g_M_141 (nm : String) : q_G "ProofHallModel" 141 12 0 "I" nm := ⟨_, _, _, rfl, by decide, rfl, List.mem_of_getElem? (i := 1532) (by decide +kernel), Or.inl rfl⟩
theorem cd_M_byteOf : q_cd m_M_byteOf := ⟨by decide +kernel, List.mem_of_getElem? (i := 17) (by decide +kernel), Or.inl ⟨rfl, List.mem_of_getElem? (i := 1748) (by decide +kernel)⟩⟩
theorem cV_M_151 : q_CV "ProofHallModel" 151 12 m_M_byteOf 1 := ⟨⟨cd_M_byteOf, by decide, by decide, by decide, by decide +kernel⟩, Or.inl (List.mem_of_getElem? (i := 1745) (by decide +kernel)), List.mem_of_getElem? (i := 1747) (by decide +kernel), _, _, _, rfl, by decide +kernel⟩
theorem cd_M_no : q_cd m_M_no := ⟨by decide +kernel, List.mem_of_getElem? (i := 17) (by decide +kernel), Or.inl ⟨rfl, List.mem_of_getElem? (i := 1744) (by decide +kernel)⟩⟩
theorem cV_M_147 : q_CV "ProofHallModel" 147 12 m_M_no 1 := ⟨⟨cd_M_no, by decide, by decide, by decide, by decide +kernel⟩, Or.inl (List.mem_of_getElem? (i := 1741) (by decide +kernel)), List.mem_of_getElem? (i := 1743) (by decide +kernel), _, _, _, rfl, by decide +kernel⟩
def q_fb (σ : q_H) (l : Nat) (a b c e f : Int32) : q_H := (q_pb4 (q_pb4 (q_pb4 (q_pb4 (q_pb4 σ l a) (l + 4) b) (l + 8) c) (l + 12) e) (l + 16) f)
def q_fm (σ : q_H) (l : Nat) (a b c e f : Int32) : q_H := (q_pm4 (q_pm4 (q_pm4 (q_pm4 (q_pm4 (q_seti σ 94 0 0) l a) (l + 4) b) (l + 8) c) (l + 12) e) (l + 16) f)
set_option maxHeartbeats 1000000 in
theorem c_H_feed {ω : q_W} {σ : q_H} (hE : q_E σ) {l : Nat} (hl : q_i σ 2 2 = nI l) (h20 : l + 20 ≤ 4096) (a b c e f : Int32) : J ω m_H_feed 6 1 6 0 0 0 [(0, .ref 1), (1, .int a), (2, .int b), (3, .int c), (4, .int e), (5, .int f)] [] σ (fun r τ => r = .inl (some (.int (nI (l + 20)))) ∧ τ = q_fb σ l a b c e f) := by
  refine j_aload_n d_H_feed_0 0 rfl ?_
  refine j_getR 2 f_H_10 d_H_feed_1 (tg_1 hE) (q_okE hE (by decide)) (rf_1_0 hE) (by decide) ?_
  refine k_getI ((nI l)) f_H_55 d_H_feed_4 (tg_2 hE) (q_okE hE (by decide)) (hl) ?_
  refine j_bipush (v := 20) d_H_feed_7 (by decide) ?_
  refine j_iadd d_H_feed_9 ?_
  refine j_topE (v := nI (l + 20)) (nI_add l 20) ?_
  refine j_sipush (v := 4096) d_H_feed_10 (by decide) ?_
  refine j_icmp_le 24 d_H_feed_13 (by decide) (fun _ => ?_) (fun h => absurd (nI_le (b := 4096) (by omega) (by decide)) h)
  refine j_aload_n d_H_feed_24 0 rfl ?_
  refine j_getR 2 f_H_10 d_H_feed_25 (tg_1 hE) (q_okE hE (by decide)) (rf_1_0 hE) (by decide) ?_
  refine j_iload_n d_H_feed_28 1 rfl ?_
  refine j_callV m_Sc_append [.int a] [] 0 0 0 cV_H_61 d_H_feed_29 rfl rfl (tg_2 hE) (q_okE hE (by decide)) (Nat.le_of_ble_eq_true rfl) (Nat.le_of_ble_eq_true rfl) (Nat.le_of_ble_eq_true rfl) (Nat.le_of_ble_eq_true rfl) (Nat.le_of_ble_eq_true rfl) (c_Sc_append (l := l) hE hl (by omega) a) (fun v τ1 h => ?_) (fun x τ h => absurd h.1 (by simp))
  obtain ⟨h1, eτ1⟩ := h
  cases h1
  have hE1 : q_E τ1 := by rw [eτ1]; exact q_E_pb4 hE _ _
  have hl1 : q_i τ1 2 2 = nI (l + 4) := by rw [eτ1]; exact q_l_pb4 _ _ _
  refine j_aload_n d_H_feed_32 0 rfl ?_
  refine j_getR 2 f_H_10 d_H_feed_33 (tg_1 hE1) (q_okE hE1 (by decide)) (rf_1_0 hE1) (by decide) ?_
  refine j_iload_n d_H_feed_36 2 rfl ?_
  refine j_callV m_Sc_append [.int b] [] 0 0 0 cV_H_61 d_H_feed_37 rfl rfl (tg_2 hE1) (q_okE hE1 (by decide)) (Nat.le_of_ble_eq_true rfl) (Nat.le_of_ble_eq_true rfl) (Nat.le_of_ble_eq_true rfl) (Nat.le_of_ble_eq_true rfl) (Nat.le_of_ble_eq_true rfl) (c_Sc_append (l := (l + 4)) hE1 hl1 (by omega) b) (fun v τ2 h => ?_) (fun x τ h => absurd h.1 (by simp))
  obtain ⟨h1, eτ2⟩ := h
  cases h1
  have hE2 : q_E τ2 := by rw [eτ2]; exact q_E_pb4 hE1 _ _
  have hl2 : q_i τ2 2 2 = nI (l + 8) := by rw [eτ2]; exact q_l_pb4 _ _ _
  refine j_aload_n d_H_feed_40 0 rfl ?_
  refine j_getR 2 f_H_10 d_H_feed_41 (tg_1 hE2) (q_okE hE2 (by decide)) (rf_1_0 hE2) (by decide) ?_
  refine j_iload_n d_H_feed_44 3 rfl ?_
  refine j_callV m_Sc_append [.int c] [] 0 0 0 cV_H_61 d_H_feed_45 rfl rfl (tg_2 hE2) (q_okE hE2 (by decide)) (Nat.le_of_ble_eq_true rfl) (Nat.le_of_ble_eq_true rfl) (Nat.le_of_ble_eq_true rfl) (Nat.le_of_ble_eq_true rfl) (Nat.le_of_ble_eq_true rfl) (c_Sc_append (l := (l + 8)) hE2 hl2 (by omega) c) (fun v τ3 h => ?_) (fun x τ h => absurd h.1 (by simp))
  obtain ⟨h1, eτ3⟩ := h
  cases h1
  have hE3 : q_E τ3 := by rw [eτ3]; exact q_E_pb4 hE2 _ _
  have hl3 : q_i τ3 2 2 = nI (l + 12) := by rw [eτ3]; exact q_l_pb4 _ _ _
  refine j_aload_n d_H_feed_48 0 rfl ?_
  refine j_getR 2 f_H_10 d_H_feed_49 (tg_1 hE3) (q_okE hE3 (by decide)) (rf_1_0 hE3) (by decide) ?_
  refine j_iload d_H_feed_52 4 rfl ?_
  refine j_callV m_Sc_append [.int e] [] 0 0 0 cV_H_61 d_H_feed_54 rfl rfl (tg_2 hE3) (q_okE hE3 (by decide)) (Nat.le_of_ble_eq_true rfl) (Nat.le_of_ble_eq_true rfl) (Nat.le_of_ble_eq_true rfl) (Nat.le_of_ble_eq_true rfl) (Nat.le_of_ble_eq_true rfl) (c_Sc_append (l := (l + 12)) hE3 hl3 (by omega) e) (fun v τ4 h => ?_) (fun x τ h => absurd h.1 (by simp))
  obtain ⟨h1, eτ4⟩ := h
  cases h1
  have hE4 : q_E τ4 := by rw [eτ4]; exact q_E_pb4 hE3 _ _
  have hl4 : q_i τ4 2 2 = nI (l + 16) := by rw [eτ4]; exact q_l_pb4 _ _ _
  refine j_aload_n d_H_feed_57 0 rfl ?_
  refine j_getR 2 f_H_10 d_H_feed_58 (tg_1 hE4) (q_okE hE4 (by decide)) (rf_1_0 hE4) (by decide) ?_
  refine j_iload d_H_feed_61 5 rfl ?_
  refine j_callV m_Sc_append [.int f] [] 0 0 0 cV_H_61 d_H_feed_63 rfl rfl (tg_2 hE4) (q_okE hE4 (by decide)) (Nat.le_of_ble_eq_true rfl) (Nat.le_of_ble_eq_true rfl) (Nat.le_of_ble_eq_true rfl) (Nat.le_of_ble_eq_true rfl) (Nat.le_of_ble_eq_true rfl) (c_Sc_append (l := (l + 16)) hE4 hl4 (by omega) f) (fun v τ5 h => ?_) (fun x τ h => absurd h.1 (by simp))
  obtain ⟨h1, eτ5⟩ := h
  cases h1
  have hE5 : q_E τ5 := by rw [eτ5]; exact q_E_pb4 hE4 _ _
  have hl5 : q_i τ5 2 2 = nI (l + 20) := by rw [eτ5]; exact q_l_pb4 _ _ _
  refine j_aload_n d_H_feed_66 0 rfl ?_
  refine j_getR 2 f_H_10 d_H_feed_67 (tg_1 hE5) (q_okE hE5 (by decide)) (rf_1_0 hE5) (by decide) ?_
  refine k_getI ((nI (l + 20))) f_H_55 d_H_feed_70 (tg_2 hE5) (q_okE hE5 (by decide)) (hl5) ?_
  exact j_iret d_H_feed_73 rfl (by decide) (by decide) ⟨rfl, by rw [eτ5, eτ4, eτ3, eτ2, eτ1]; rfl⟩
set_option maxHeartbeats 1000000 in
theorem x_H_feed {ω : q_W} {σ : q_H} (hE : q_E σ) (hn : q_n σ < 900000) {l : Nat} (hl : q_i σ 2 2 = nI l) (hl2 : l ≤ 4096) (h20 : 4096 < l + 20) (a b c e f : Int32) : J ω m_H_feed 6 1 6 0 0 0 [(0, .ref 1), (1, .int a), (2, .int b), (3, .int c), (4, .int e), (5, .int f)] [] σ (fun r τ => r = .inr (q_n σ + 1) ∧ τ = q_add σ (5, 0)) := by
  refine j_aload_n d_H_feed_0 0 rfl ?_
  refine j_getR 2 f_H_10 d_H_feed_1 (tg_1 hE) (q_okE hE (by decide)) (rf_1_0 hE) (by decide) ?_
  refine k_getI ((nI l)) f_H_55 d_H_feed_4 (tg_2 hE) (q_okE hE (by decide)) (hl) ?_
  refine j_bipush (v := 20) d_H_feed_7 (by decide) ?_
  refine j_iadd d_H_feed_9 ?_
  refine j_topE (v := nI (l + 20)) (nI_add l 20) ?_
  refine j_sipush (v := 4096) d_H_feed_10 (by decide) ?_
  refine j_icmp_le 24 d_H_feed_13 (by decide) (fun h => absurd h (nI_ge (a := 4096) (by omega) (by omega))) (fun _ => ?_)
  refine j_newEx (k := 0) rfl x_H_60 (List.mem_of_getElem? (i := 674) (by decide +kernel)) d_H_feed_16 d_H_feed_19 d_H_feed_20 (by decide) (by decide) (by omega) (by decide) (by decide) ?_
  exact j_athrow d_H_feed_23 (jt_out rfl (by decide) (by decide) ⟨rfl, rfl⟩)
theorem c_M_no {ω : q_W} {σ : q_H} (hE : q_E σ) (x : Int32) : J ω m_M_no 0 0 0 0 0 0 [(0, .ref 94), (1, .int x)] [] σ (fun r τ => r = .inl (some (.int 0)) ∧ τ = q_seti σ 94 0 x) := by
  refine j_aload_n d_M_no_0 0 rfl ?_
  refine j_iload_n d_M_no_1 1 rfl ?_
  refine j_putI (g_M_141 _) d_M_no_2 (tg_94 hE) (q_okE hE (by decide)) ?_
  refine j_iconst (v := 0) d_M_no_5 (by decide) ?_
  exact j_iret d_M_no_6 rfl (by decide) (by decide) ⟨rfl, rfl⟩
set_option maxHeartbeats 1000000 in
theorem c_M_feed {ω : q_W} {σ : q_H} (hE : q_E σ) {l : Nat} (hl : q_i σ 94 2 = nI l) (h20 : l + 20 ≤ 4096) (a b c e f : Int32) : J ω m_M_feed 1 0 0 0 0 0 [(0, .ref 94), (1, .int a), (2, .int b), (3, .int c), (4, .int e), (5, .int f)] [] σ (fun r τ => r = .inl (some (.int (nI (l + 20)))) ∧ τ = q_fm σ l a b c e f) := by
  refine j_aload_n d_M_feed_0 0 rfl ?_
  refine k_getI ((nI l)) f_M_144 d_M_feed_1 (tg_94 hE) (q_okE hE (by decide)) (hl) ?_
  refine j_bipush (v := 20) d_M_feed_4 (by decide) ?_
  refine j_iadd d_M_feed_6 ?_
  refine j_topE (v := nI (l + 20)) (nI_add l 20) ?_
  refine j_sipush (v := 4096) d_M_feed_7 (by decide) ?_
  refine j_icmp_le 19 d_M_feed_10 (by decide) (fun _ => ?_) (fun h => absurd (nI_le (b := 4096) (by omega) (by decide)) h)
  refine j_aload_n d_M_feed_19 0 rfl ?_
  refine j_iconst (v := 0) d_M_feed_20 (by decide) ?_
  refine j_putI (g_M_141 _) d_M_feed_21 (tg_94 hE) (q_okE hE (by decide)) ?_
  refine j_aload_n d_M_feed_24 0 rfl ?_
  refine j_iload_n d_M_feed_25 1 rfl ?_
  refine j_callV m_M_byteOf [.int a] [] 0 0 0 cV_M_151 d_M_feed_26 rfl rfl (tg_94 hE) (q_okE hE (by decide)) (Nat.le_of_ble_eq_true rfl) (Nat.le_of_ble_eq_true rfl) (Nat.le_of_ble_eq_true rfl) (Nat.le_of_ble_eq_true rfl) (Nat.le_of_ble_eq_true rfl) (c_M_byteOf (σ := q_seti σ 94 0 0) (l := l) (q_E_i hE) hl (by omega) a) (fun v τ1 h => ?_) (fun x τ h => absurd h.1 (by simp))
  obtain ⟨h1, eτ1⟩ := h
  cases h1
  have hE1 : q_E τ1 := by rw [eτ1]; exact q_E_pm4 (q_E_i hE) _ _
  have hl1 : q_i τ1 94 2 = nI (l + 4) := by rw [eτ1]; exact q_l_pm4 _ _ _
  refine j_aload_n d_M_feed_29 0 rfl ?_
  refine j_iload_n d_M_feed_30 2 rfl ?_
  refine j_callV m_M_byteOf [.int b] [] 0 0 0 cV_M_151 d_M_feed_31 rfl rfl (tg_94 hE1) (q_okE hE1 (by decide)) (Nat.le_of_ble_eq_true rfl) (Nat.le_of_ble_eq_true rfl) (Nat.le_of_ble_eq_true rfl) (Nat.le_of_ble_eq_true rfl) (Nat.le_of_ble_eq_true rfl) (c_M_byteOf (l := (l + 4)) hE1 hl1 (by omega) b) (fun v τ2 h => ?_) (fun x τ h => absurd h.1 (by simp))
  obtain ⟨h1, eτ2⟩ := h
  cases h1
  have hE2 : q_E τ2 := by rw [eτ2]; exact q_E_pm4 (hE1) _ _
  have hl2 : q_i τ2 94 2 = nI (l + 8) := by rw [eτ2]; exact q_l_pm4 _ _ _
  refine j_aload_n d_M_feed_34 0 rfl ?_
  refine j_iload_n d_M_feed_35 3 rfl ?_
  refine j_callV m_M_byteOf [.int c] [] 0 0 0 cV_M_151 d_M_feed_36 rfl rfl (tg_94 hE2) (q_okE hE2 (by decide)) (Nat.le_of_ble_eq_true rfl) (Nat.le_of_ble_eq_true rfl) (Nat.le_of_ble_eq_true rfl) (Nat.le_of_ble_eq_true rfl) (Nat.le_of_ble_eq_true rfl) (c_M_byteOf (l := (l + 8)) hE2 hl2 (by omega) c) (fun v τ3 h => ?_) (fun x τ h => absurd h.1 (by simp))
  obtain ⟨h1, eτ3⟩ := h
  cases h1
  have hE3 : q_E τ3 := by rw [eτ3]; exact q_E_pm4 (hE2) _ _
  have hl3 : q_i τ3 94 2 = nI (l + 12) := by rw [eτ3]; exact q_l_pm4 _ _ _
  refine j_aload_n d_M_feed_39 0 rfl ?_
  refine j_iload d_M_feed_40 4 rfl ?_
  refine j_callV m_M_byteOf [.int e] [] 0 0 0 cV_M_151 d_M_feed_42 rfl rfl (tg_94 hE3) (q_okE hE3 (by decide)) (Nat.le_of_ble_eq_true rfl) (Nat.le_of_ble_eq_true rfl) (Nat.le_of_ble_eq_true rfl) (Nat.le_of_ble_eq_true rfl) (Nat.le_of_ble_eq_true rfl) (c_M_byteOf (l := (l + 12)) hE3 hl3 (by omega) e) (fun v τ4 h => ?_) (fun x τ h => absurd h.1 (by simp))
  obtain ⟨h1, eτ4⟩ := h
  cases h1
  have hE4 : q_E τ4 := by rw [eτ4]; exact q_E_pm4 (hE3) _ _
  have hl4 : q_i τ4 94 2 = nI (l + 16) := by rw [eτ4]; exact q_l_pm4 _ _ _
  refine j_aload_n d_M_feed_45 0 rfl ?_
  refine j_iload d_M_feed_46 5 rfl ?_
  refine j_callV m_M_byteOf [.int f] [] 0 0 0 cV_M_151 d_M_feed_48 rfl rfl (tg_94 hE4) (q_okE hE4 (by decide)) (Nat.le_of_ble_eq_true rfl) (Nat.le_of_ble_eq_true rfl) (Nat.le_of_ble_eq_true rfl) (Nat.le_of_ble_eq_true rfl) (Nat.le_of_ble_eq_true rfl) (c_M_byteOf (l := (l + 16)) hE4 hl4 (by omega) f) (fun v τ5 h => ?_) (fun x τ h => absurd h.1 (by simp))
  obtain ⟨h1, eτ5⟩ := h
  cases h1
  have hE5 : q_E τ5 := by rw [eτ5]; exact q_E_pm4 (hE4) _ _
  have hl5 : q_i τ5 94 2 = nI (l + 20) := by rw [eτ5]; exact q_l_pm4 _ _ _
  refine j_aload_n d_M_feed_51 0 rfl ?_
  refine k_getI ((nI (l + 20))) f_M_144 d_M_feed_52 (tg_94 hE5) (q_okE hE5 (by decide)) (hl5) ?_
  exact j_iret d_M_feed_55 rfl (by decide) (by decide) ⟨rfl, by rw [eτ5, eτ4, eτ3, eτ2, eτ1]; rfl⟩
set_option maxHeartbeats 1000000 in
theorem x_M_feed {ω : q_W} {σ : q_H} (hE : q_E σ) {l : Nat} (hl : q_i σ 94 2 = nI l) (hl2 : l ≤ 4096) (h20 : 4096 < l + 20) (a b c e f : Int32) : J ω m_M_feed 1 0 0 0 0 0 [(0, .ref 94), (1, .int a), (2, .int b), (3, .int c), (4, .int e), (5, .int f)] [] σ (fun r τ => r = .inl (some (.int 0)) ∧ τ = q_seti σ 94 0 1) := by
  refine j_aload_n d_M_feed_0 0 rfl ?_
  refine k_getI ((nI l)) f_M_144 d_M_feed_1 (tg_94 hE) (q_okE hE (by decide)) (hl) ?_
  refine j_bipush (v := 20) d_M_feed_4 (by decide) ?_
  refine j_iadd d_M_feed_6 ?_
  refine j_topE (v := nI (l + 20)) (nI_add l 20) ?_
  refine j_sipush (v := 4096) d_M_feed_7 (by decide) ?_
  refine j_icmp_le 19 d_M_feed_10 (by decide) (fun h => absurd h (nI_ge (a := 4096) (by omega) (by omega))) (fun _ => ?_)
  refine j_aload_n d_M_feed_13 0 rfl ?_
  refine j_iconst (v := 1) d_M_feed_14 (by decide) ?_
  refine j_callV m_M_no [.int 1] [] 0 0 0 cV_M_147 d_M_feed_15 rfl rfl (tg_94 hE) (q_okE hE (by decide)) (Nat.le_of_ble_eq_true rfl) (Nat.le_of_ble_eq_true rfl) (Nat.le_of_ble_eq_true rfl) (Nat.le_of_ble_eq_true rfl) (Nat.le_of_ble_eq_true rfl) (c_M_no (σ := σ) hE 1) (fun v τ h => ?_) (fun x τ h => absurd h.1 (by simp))
  obtain ⟨h1, rfl⟩ := h
  cases h1
  exact j_iret d_M_feed_18 rfl (by decide) (by decide) ⟨rfl, rfl⟩
