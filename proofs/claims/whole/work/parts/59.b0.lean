/-! stretches that need no references -/
set_option maxHeartbeats 2000000 in
theorem b0_Ma_forget_0 {ω : q_W} {σ : q_H} {Q : q_R → q_H → Prop} {d mc ms : Nat}  {m : Nat} (hm : m = 43 ∨ m = 87) (hE : q_E σ) (h : (Q (.inl none) (zs (zs (zfl σ (m + 1) 12 0) m 0 0) m 1 (-1)))) : J ω m_Ma_forget (d + 1) mc ms 0 0 0 [(0, .ref m)] [] σ Q := by
  refine j_aload_n d_Ma_forget_0 0 rfl ?_
  refine j_getR (m + 1) f_Ma_15 d_Ma_forget_1 (tY_m_0 hE hm) (q_okE hE (by omega)) (rY_m_2 hE hm) (by omega) ?_
  refine j_iconst (v := zI 0) d_Ma_forget_4 (by decide) ?_
  refine j_callS m_JA_fill [.ref (m + 1), .int (zI 0)] [] 0 0 0 cS_Ma_25 d_Ma_forget_5 rfl rfl (Nat.le_of_ble_eq_true rfl) (Nat.succ_le_succ (Nat.zero_le _)) (Nat.le_of_ble_eq_true rfl) (Nat.zero_le _) (Nat.zero_le _) (c_JA_fill (tY_m_1 hE hm) (q_okE hE (by omega)) (by decide) (by decide) _) (fun v τ h => ?_) (fun x τ h => absurd h.1 (by simp))
  obtain ⟨e1, e2⟩ := h; cases e1; rw [e2]
  refine j_aload_n d_Ma_forget_8 0 rfl ?_
  refine j_iconst (v := zI 0) d_Ma_forget_9 (by decide) ?_
  refine zj_putI (g_Ma_31 _) d_Ma_forget_10 (tY_m_0 (zfl_E hE) hm) (q_okE (zfl_E hE) (by omega)) ?_
  refine j_aload_n d_Ma_forget_13 0 rfl ?_
  refine j_iconst (v := zI (-1)) d_Ma_forget_14 (by decide) ?_
  refine zj_putI (g_Ma_9 _) d_Ma_forget_15 (tY_m_0 (zs_E (zfl_E hE)) hm) (q_okE (zs_E (zfl_E hE)) (by omega)) ?_
  exact j_vret d_Ma_forget_18 rfl (Nat.zero_le _) (Nat.zero_le _) h
set_option maxHeartbeats 2000000 in
theorem b0_Ma_execute_0 {ω : q_W} {σ : q_H} {Q : q_R → q_H → Prop} {d mc ms : Nat}  {m : Nat} (hm : m = 43 ∨ m = 87) {p : Nat} (hp : p = 16 ∨ p = 29) {w : Nat} (hw : w = 42 ∨ w = 91) (hE : q_E σ) (h : (J ω m_Ma_forget d 0 0 0 0 0 [(0, .ref m)] [] σ (q_kv (fun τ => J ω m_Ma_execute (d + 1) mc ms 0 0 4 [(0, .ref m), (1, .ref p), (2, .ref w)] [] τ Q)))) : J ω m_Ma_execute (d + 1) mc ms 0 0 0 [(0, .ref m), (1, .ref p), (2, .ref w)] [] σ Q := by
  refine j_aload_n d_Ma_execute_0 0 rfl ?_
  refine j_callV m_Ma_forget [] [] d 0 0 cV_Ma_34 d_Ma_execute_1 rfl rfl (tY_m_0 hE hm) (q_okE hE (by omega)) (Nat.le_of_ble_eq_true rfl) (Nat.le_refl _) (Nat.le_of_ble_eq_true rfl) (Nat.zero_le _) (Nat.zero_le _) h (fun v τ h => ?_) (fun x τ h => ?_)
  · obtain ⟨e1, h⟩ := h; cases e1; exact j_sel [0, 1, 2] rfl h
  · obtain ⟨e1, h⟩ := h; cases e1
set_option maxHeartbeats 2000000 in
theorem b0_Ma_execute_4 {ω : q_W} {σ : q_H} {Q : q_R → q_H → Prop} {d mc ms : Nat}  {m : Nat} (hm : m = 43 ∨ m = 87) {p : Nat} (hp : p = 16 ∨ p = 29) {w : Nat} (hw : w = 42 ∨ w = 91) (hE : q_E σ) (h : (J ω m_Ma_execute (d + 1) mc ms 0 0 19 [(0, .ref m), (3, .int (zI 0)), (4, .int (zI 0))] [] (zr (zr σ m 5 p) m 6 w) Q)) : J ω m_Ma_execute (d + 1) mc ms 0 0 4 [(0, .ref m), (1, .ref p), (2, .ref w)] [] σ Q := by
  refine j_aload_n d_Ma_execute_4 0 rfl ?_
  refine j_aload_n d_Ma_execute_5 1 rfl ?_
  refine zj_putR (g_Ma_37 _) d_Ma_execute_6 (tY_m_0 hE hm) (q_okE hE (by omega)) (by omega) ?_
  refine j_aload_n d_Ma_execute_9 0 rfl ?_
  refine j_aload_n d_Ma_execute_10 2 rfl ?_
  refine zj_putR (g_Ma_41 _) d_Ma_execute_11 (tY_m_0 (zr_E hE (by rcases hm with rfl | rfl <;> rfl)) hm) (q_okE (zr_E hE (by rcases hm with rfl | rfl <;> rfl)) (by omega)) (by omega) ?_
  refine j_iconst (v := zI 0) d_Ma_execute_14 (by decide) ?_
  refine j_istore_n (L' := [(3, .int (zI 0)), (0, .ref m), (1, .ref p), (2, .ref w)]) d_Ma_execute_15 (by decide) rfl ?_
  refine j_iconst (v := zI 0) d_Ma_execute_16 (by decide) ?_
  refine j_istore (L' := [(4, .int (zI 0)), (3, .int (zI 0)), (0, .ref m), (1, .ref p), (2, .ref w)]) d_Ma_execute_17 (by decide) rfl ?_
  exact j_sel [2, 1, 0] rfl h
set_option maxHeartbeats 2000000 in
theorem b0_En_encode_0 {ω : q_W} {σ : q_H} {Q : q_R → q_H → Prop} {d mc ms : Nat}  {p : Nat} (hp : p = 16 ∨ p = 29) (hE : q_E σ) (h : (J ω m_Ci_clear d 0 0 0 0 0 [(0, .ref 50)] [] (zr σ 48 1 p) (q_kv (fun τ => J ω m_En_encode (d + 1) mc ms 0 0 15 [(0, .ref 48)] [] τ Q)))) : J ω m_En_encode (d + 1) mc ms 0 0 0 [(0, .ref 48), (1, .ref p)] [] σ Q := by
  refine j_aload_n d_En_encode_0 0 rfl ?_
  refine j_aload_n d_En_encode_1 1 rfl ?_
  refine zj_putR (g_En_50 _) d_En_encode_2 (tg_48 hE) (q_okE hE (by decide)) (by omega) ?_
  refine j_aload_n d_En_encode_5 0 rfl ?_
  refine j_getR 49 f_En_12 d_En_encode_6 (tg_48 (zr_E hE (by decide))) (q_okE (zr_E hE (by decide)) (by decide)) (rf_48_0 (zr_E hE (by decide))) (by decide) ?_
  refine j_getR 50 f_En_46 d_En_encode_9 (tg_49 (zr_E hE (by decide))) (q_okE (zr_E hE (by decide)) (by decide)) (rf_49_0 (zr_E hE (by decide))) (by decide) ?_
  refine j_callV m_Ci_clear [] [] d 0 0 cV_En_54 d_En_encode_12 rfl rfl (tg_50 (zr_E hE (by decide))) (q_okE (zr_E hE (by decide)) (by decide)) (Nat.le_of_ble_eq_true rfl) (Nat.le_refl _) (Nat.le_of_ble_eq_true rfl) (Nat.zero_le _) (Nat.zero_le _) h (fun v τ h => ?_) (fun x τ h => ?_)
  · obtain ⟨e1, h⟩ := h; cases e1; exact j_sel [0] rfl h
  · obtain ⟨e1, h⟩ := h; cases e1
set_option maxHeartbeats 2000000 in
theorem b0_In_study_0 {ω : q_W} {σ : q_H} {Q : q_R → q_H → Prop} {d mc ms : Nat}  {p : Nat} (hp : p = 16 ∨ p = 29) (hE : q_E σ) (h : (Q (.inl none) (zs (zr σ 47 2 p) 47 5 0))) : J ω m_In_study d mc ms 0 0 0 [(0, .ref 47), (1, .ref p)] [] σ Q := by
  refine j_aload_n d_In_study_0 0 rfl ?_
  refine j_aload_n d_In_study_1 1 rfl ?_
  refine zj_putR (g_In_42 _) d_In_study_2 (tg_47 hE) (q_okE hE (by decide)) (by omega) ?_
  refine j_aload_n d_In_study_5 0 rfl ?_
  refine j_iconst (v := zI 0) d_In_study_6 (by decide) ?_
  refine zj_putZ (g_In_46 _) d_In_study_7 (tg_47 (zr_E hE (by decide))) (q_okE (zr_E hE (by decide)) (by decide)) (by decide) ?_
  exact j_vret d_In_study_10 rfl (Nat.zero_le _) (Nat.zero_le _) h
set_option maxHeartbeats 2000000 in
theorem b0_En_circuit_0 {ω : q_W} {σ : q_H} {Q : q_R → q_H → Prop} {d mc ms : Nat}   (hE : q_E σ) (h : (Q (.inl (some (.ref 50))) σ)) : J ω m_En_circuit d mc ms 0 0 0 [(0, .ref 48)] [] σ Q := by
  refine j_aload_n d_En_circuit_0 0 rfl ?_
  refine j_getR 49 f_En_12 d_En_circuit_1 (tg_48 hE) (q_okE hE (by decide)) (rf_48_0 hE) (by decide) ?_
  refine j_getR 50 f_En_46 d_En_circuit_4 (tg_49 hE) (q_okE hE (by decide)) (rf_49_0 hE) (by decide) ?_
  exact j_aret d_En_circuit_7 rfl (Or.inl ⟨_, rfl⟩) (Nat.zero_le _) (Nat.zero_le _) h
set_option maxHeartbeats 2000000 in
theorem b0_In_mistakes_0 {ω : q_W} {σ : q_H} {Q : q_R → q_H → Prop} {d mc ms : Nat}   (hE : q_E σ) (h : (J ω m_So_mistakes d 0 0 0 0 0 [(0, .ref 70)] [] σ (q_ki (fun v τ => J ω m_In_mistakes (d + 1) mc ms 0 0 11 [(0, .ref 47)] [.int (zI v), .int (zI (z σ 47 10))] τ Q)))) : J ω m_In_mistakes (d + 1) mc ms 0 0 0 [(0, .ref 47)] [] σ Q := by
  refine j_aload_n d_In_mistakes_0 0 rfl ?_
  refine zj_getI (z σ 47 10) f_In_50 d_In_mistakes_1 (tg_47 hE) (q_okE hE (by decide)) (q_z _ _ _) ?_
  refine j_aload_n d_In_mistakes_4 0 rfl ?_
  refine j_getR 70 f_In_21 d_In_mistakes_5 (tg_47 hE) (q_okE hE (by decide)) (rf_47_1 hE) (by decide) ?_
  refine j_callV m_So_mistakes [] [.int (zI (z σ 47 10))] d 0 0 cV_In_54 d_In_mistakes_8 rfl rfl (tg_70 hE) (q_okE hE (by decide)) (Nat.le_of_ble_eq_true rfl) (Nat.le_refl _) (Nat.le_of_ble_eq_true rfl) (Nat.zero_le _) (Nat.zero_le _) h (fun v τ h => ?_) (fun x τ h => ?_)
  · obtain ⟨v, hv, e1, h⟩ := h; cases e1; exact j_sel [0] rfl h
  · obtain ⟨v, hv, e1, h⟩ := h; cases e1
set_option maxHeartbeats 2000000 in
theorem b0_In_mistakes_11 {ω : q_W} {σ : q_H} {Q : q_R → q_H → Prop} {d mc ms : Nat} {y0 : Int} {y1 : Int}  (hE : q_E σ) (h : (J ω m_En_circuit d 0 0 0 0 0 [(0, .ref 48)] [] σ (q_kr (fun v τ => v = 50 ∧ J ω m_In_mistakes (d + 1) mc ms 0 0 19 [] [.ref 50, .int (zI (y1 + y0))] τ Q)))) : J ω m_In_mistakes (d + 1) mc ms 0 0 11 [(0, .ref 47)] [.int (zI y0), .int (zI y1)] σ Q := by
  refine zj_iadd (y1 + y0) rfl d_In_mistakes_11 ?_
  refine j_aload_n d_In_mistakes_12 0 rfl ?_
  refine j_getR 48 f_In_12 d_In_mistakes_13 (tg_47 hE) (q_okE hE (by decide)) (rf_47_0 hE) (by decide) ?_
  refine j_callV m_En_circuit [] [.int (zI (y1 + y0))] d 0 0 cV_In_58 d_In_mistakes_16 rfl rfl (tg_48 hE) (q_okE hE (by decide)) (Nat.le_of_ble_eq_true rfl) (Nat.le_refl _) (Nat.le_of_ble_eq_true rfl) (Nat.zero_le _) (Nat.zero_le _) h (fun v τ h => ?_) (fun x τ h => ?_)
  · obtain ⟨v, e1, e2, h⟩ := h; cases e1; subst e2; exact j_sel [] rfl h
  · obtain ⟨v, e1, e2, h⟩ := h; cases e1
set_option maxHeartbeats 2000000 in
theorem b0_In_mistakes_19 {ω : q_W} {σ : q_H} {Q : q_R → q_H → Prop} {d mc ms : Nat} {y1 : Int}  (hE : q_E σ) (h : (Q (.inl (some (.int (zI (y1 + (z σ 50 8)))))) σ)) : J ω m_In_mistakes (d + 1) mc ms 0 0 19 [] [.ref 50, .int (zI y1)] σ Q := by
  refine zj_getI (z σ 50 8) f_In_62 d_In_mistakes_19 (tg_50 hE) (q_okE hE (by decide)) (q_z _ _ _) ?_
  refine zj_iadd (y1 + (z σ 50 8)) rfl d_In_mistakes_22 ?_
  exact zj_iret d_In_mistakes_23 rfl (Nat.zero_le _) (Nat.zero_le _) h
