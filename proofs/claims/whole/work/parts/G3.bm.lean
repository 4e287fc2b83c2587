/-! the stretches of the reference's build -/
theorem d_M_build_16 : decode m_M_build.2.1 16 = .ok (.astore_n 2, 1) := by decide +kernel
theorem d_M_build_17 : decode m_M_build.2.1 17 = .ok (.aload_n 0, 1) := by decide +kernel
theorem d_M_build_18 : decode m_M_build.2.1 18 = .ok (.iconst 1, 1) := by decide +kernel
theorem d_M_build_19 : decode m_M_build.2.1 19 = .ok (.aload_n 0, 1) := by decide +kernel
theorem d_M_build_20 : decode m_M_build.2.1 20 = .ok (.getfield 221, 3) := by decide +kernel
theorem d_M_build_23 : decode m_M_build.2.1 23 = .ok (.invokevirtual 342, 3) := by decide +kernel
theorem d_M_build_26 : decode m_M_build.2.1 26 = .ok (.ireturn, 1) := by decide +kernel
theorem d_M_build_34 : decode m_M_build.2.1 34 = .ok (.aload_n 0, 1) := by decide +kernel
theorem d_M_build_35 : decode m_M_build.2.1 35 = .ok (.aload_n 0, 1) := by decide +kernel
theorem d_M_build_36 : decode m_M_build.2.1 36 = .ok (.getfield 237, 3) := by decide +kernel
theorem d_M_build_39 : decode m_M_build.2.1 39 = .ok (.aload_n 0, 1) := by decide +kernel
theorem d_M_build_40 : decode m_M_build.2.1 40 = .ok (.getfield 240, 3) := by decide +kernel
theorem d_M_build_43 : decode m_M_build.2.1 43 = .ok (.invokevirtual 342, 3) := by decide +kernel
theorem d_M_build_46 : decode m_M_build.2.1 46 = .ok (.ireturn, 1) := by decide +kernel
theorem d_M_build_61 : decode m_M_build.2.1 61 = .ok (.aload_n 0, 1) := by decide +kernel
theorem d_M_build_62 : decode m_M_build.2.1 62 = .ok (.bipush 7, 2) := by decide +kernel
theorem d_M_build_64 : decode m_M_build.2.1 64 = .ok (.aload_n 0, 1) := by decide +kernel
theorem d_M_build_65 : decode m_M_build.2.1 65 = .ok (.getfield 144, 3) := by decide +kernel
theorem d_M_build_68 : decode m_M_build.2.1 68 = .ok (.invokevirtual 342, 3) := by decide +kernel
theorem d_M_build_71 : decode m_M_build.2.1 71 = .ok (.ireturn, 1) := by decide +kernel
theorem cd_M_refused : q_cd m_M_refused := ⟨by decide +kernel, List.mem_of_getElem? (i := 17) (by decide +kernel), Or.inl ⟨rfl, List.mem_of_getElem? (i := 1922) (by decide +kernel)⟩⟩
theorem cV_M_342 : q_CV "ProofHallModel" 342 12 m_M_refused 2 := ⟨⟨cd_M_refused, by decide, by decide, by decide, by decide +kernel⟩, Or.inl (List.mem_of_getElem? (i := 1919) (by decide +kernel)), List.mem_of_getElem? (i := 1921) (by decide +kernel), _, _, _, rfl, by decide +kernel⟩
theorem f_M_221 : q_F "ProofHallModel" 221 12 10 "I" := ⟨_, _, _, rfl, by decide, rfl, Or.inl (List.mem_of_getElem? (i := 1542) (by decide +kernel))⟩
theorem b_M_build_8 {ω : q_W} {σ : q_H} {Q : q_R → q_H → Prop} {d mc ms : Nat} (hE : q_E σ) (h : J ω m_M_wholeProgram d 0 0 0 0 0 [(0, .ref 94)] [] σ (q_ox (q_ki (fun v τ => J ω m_M_build (d + 1) mc ms 0 0 12 [(0, .ref 94)] [.int (zI v)] τ Q)) (fun x τ => x = 100 ∧ q_E τ ∧ J ω m_M_build (d + 1) mc ms 0 0 16 [(0, .ref 94)] [.ref 100] τ Q))) : J ω m_M_build (d + 1) mc ms 0 0 8 [(0, .ref 94)] [] σ Q := by
  refine j_aload_n d_M_build_8 0 rfl ?_
  refine j_callV m_M_wholeProgram [] [] d 0 0 cV_M_339 d_M_build_9 rfl rfl (tg_94 hE) (q_okE hE (by decide)) (Nat.le_of_ble_eq_true rfl) (Nat.le_refl _) (Nat.le_of_ble_eq_true rfl) (Nat.zero_le _) (Nat.zero_le _) h (fun v τ h => ?_) (fun x τ h => ?_)
  · rcases h with ⟨w, -, e, h⟩ | ⟨x, e, -⟩
    · cases e
      exact h
    · cases e
  · rcases h with ⟨w, -, e, -⟩ | ⟨y, e, e2, hE2, h⟩
    · cases e
    · cases e
      subst e2
      exact jt_catch (X := "java/lang/ArithmeticException") [] (8, 13, 16, 27) [] rfl rfl (tg_100 hE2) (q_okE hE2 (by decide)) (fun y hy => by cases hy) ⟨⟨by decide, by decide⟩, by decide, "java/lang/ArithmeticException", "java/lang/ArithmeticException", rfl, List.mem_of_getElem? (i := 1516) (by decide +kernel), List.mem_of_getElem? (i := 1518) (by decide +kernel)⟩ h
set_option maxHeartbeats 2000000 in
theorem b_M_build_0 {ω : q_W} {σ : q_H} {Q : q_R → q_H → Prop} {d mc ms : Nat}  {s : Nat} (hs : s = 110 ∨ s = 116) (rs0 : q_r σ 94 32 = s) (rs1 : q_r σ 94 33 = (s + 1)) (rs2 : q_r σ 94 34 = (s + 2)) (rs3 : q_r σ 94 35 = (s + 3)) (rs4 : q_r σ 94 36 = (s + 4)) (rs5 : q_r σ 94 37 = (s + 5)) {u : Nat} (hu : u = 110 ∨ u = 116) (ru0 : q_r σ 94 38 = u) (ru1 : q_r σ 94 39 = (u + 1)) (ru2 : q_r σ 94 40 = (u + 2)) (ru3 : q_r σ 94 41 = (u + 3)) (ru4 : q_r σ 94 42 = (u + 4)) (ru5 : q_r σ 94 43 = (u + 5)) (hE : q_E σ) (h : (J ω m_M_cut d 0 0 0 0 0 [(0, .ref 94)] [] σ (q_kv (fun τ => J ω m_M_build (d + 1) mc ms 0 0 4 [(0, .ref 94)] [] τ Q)))) : J ω m_M_build (d + 1) mc ms 0 0 0 [(0, .ref 94)] [] σ Q := by
  refine j_aload_n d_M_build_0 0 rfl ?_
  refine j_callV m_M_cut [] [] d 0 0 cV_M_336 d_M_build_1 rfl rfl (tg_94 hE) (q_okE hE (by decide)) (Nat.le_of_ble_eq_true rfl) (Nat.le_refl _) (Nat.le_of_ble_eq_true rfl) (Nat.zero_le _) (Nat.zero_le _) h (fun v τ h => ?_) (fun x τ h => ?_)
  · obtain ⟨e1, h⟩ := h; cases e1; exact j_sel [0] rfl h
  · obtain ⟨e1, h⟩ := h; cases e1
set_option maxHeartbeats 2000000 in
theorem b_M_build_4 {ω : q_W} {σ : q_H} {Q : q_R → q_H → Prop} {d mc ms : Nat}  {s : Nat} (hs : s = 110 ∨ s = 116) (rs0 : q_r σ 94 32 = s) (rs1 : q_r σ 94 33 = (s + 1)) (rs2 : q_r σ 94 34 = (s + 2)) (rs3 : q_r σ 94 35 = (s + 3)) (rs4 : q_r σ 94 36 = (s + 4)) (rs5 : q_r σ 94 37 = (s + 5)) {u : Nat} (hu : u = 110 ∨ u = 116) (ru0 : q_r σ 94 38 = u) (ru1 : q_r σ 94 39 = (u + 1)) (ru2 : q_r σ 94 40 = (u + 2)) (ru3 : q_r σ 94 41 = (u + 3)) (ru4 : q_r σ 94 42 = (u + 4)) (ru5 : q_r σ 94 43 = (u + 5)) (hE : q_E σ) (h : (J ω m_M_swap d 0 0 0 0 0 [(0, .ref 94)] [] σ (q_kv (fun τ => J ω m_M_build (d + 1) mc ms 0 0 8 [(0, .ref 94)] [] τ Q)))) : J ω m_M_build (d + 1) mc ms 0 0 4 [(0, .ref 94)] [] σ Q := by
  refine j_aload_n d_M_build_4 0 rfl ?_
  refine j_callV m_M_swap [] [] d 0 0 cV_M_333 d_M_build_5 rfl rfl (tg_94 hE) (q_okE hE (by decide)) (Nat.le_of_ble_eq_true rfl) (Nat.le_refl _) (Nat.le_of_ble_eq_true rfl) (Nat.zero_le _) (Nat.zero_le _) h (fun v τ h => ?_) (fun x τ h => ?_)
  · obtain ⟨e1, h⟩ := h; cases e1; exact j_sel [0] rfl h
  · obtain ⟨e1, h⟩ := h; cases e1
set_option maxHeartbeats 2000000 in
theorem b_M_build_12 {ω : q_W} {σ : q_H} {Q : q_R → q_H → Prop} {d mc ms : Nat} {y0 : Int} {s : Nat} (hs : s = 110 ∨ s = 116) (rs0 : q_r σ 94 32 = s) (rs1 : q_r σ 94 33 = (s + 1)) (rs2 : q_r σ 94 34 = (s + 2)) (rs3 : q_r σ 94 35 = (s + 3)) (rs4 : q_r σ 94 36 = (s + 4)) (rs5 : q_r σ 94 37 = (s + 5)) {u : Nat} (hu : u = 110 ∨ u = 116) (ru0 : q_r σ 94 38 = u) (ru1 : q_r σ 94 39 = (u + 1)) (ru2 : q_r σ 94 40 = (u + 2)) (ru3 : q_r σ 94 41 = (u + 3)) (ru4 : q_r σ 94 42 = (u + 4)) (ru5 : q_r σ 94 43 = (u + 5)) (hE : q_E σ) (h : q_imp ((z σ 94 48) = 0) ((J ω m_M_workOfAll d 0 0 0 0 0 [(0, .ref 94), (1, .int (zI y0))] [] σ (q_kl (fun v τ => J ω m_M_build (d + 1) mc ms 0 0 52 [(0, .ref 94), (1, .int (zI y0))] [.long v] τ Q)))) ∧ q_imp ((z σ 94 48) ≠ 0) ((J ω m_M_refused d 0 0 0 0 0 [(0, .ref 94), (1, .int (zI (z σ 94 48))), (2, .int (zI (z σ 94 49)))] [] σ (q_ki (fun v τ => J ω m_M_build (d + 1) mc ms 0 0 46 [] [.int (zI v)] τ Q))))) : J ω m_M_build (d + 1) mc ms 0 0 12 [(0, .ref 94)] [.int (zI y0)] σ Q := by
  refine j_istore_n (L' := [(1, .int (zI y0)), (0, .ref 94)]) d_M_build_12 (by decide) rfl ?_
  refine j_goto 27 d_M_build_13 (by decide) ?_
  refine j_aload_n d_M_build_27 1 rfl ?_
  refine zj_getI (z σ 94 48) f_M_237 d_M_build_28 (tg_94 hE) (q_okE hE (by decide)) (q_z _ _ _) ?_
  obtain ⟨h1, h2⟩ := h
  refine zj_if_eq 47 d_M_build_31 (by decide) (z_R _ _ _) (fun k1 => ?_) (fun k1 => ?_)
  · have h := h1 k1
    refine j_aload_n d_M_build_47 1 rfl ?_
    refine j_iload_n d_M_build_48 0 rfl ?_
    refine j_callV m_M_workOfAll [.int (zI y0)] [] d 0 0 cV_M_322 d_M_build_49 rfl rfl (tg_94 hE) (q_okE hE (by decide)) (Nat.le_of_ble_eq_true rfl) (Nat.le_refl _) (Nat.le_of_ble_eq_true rfl) (Nat.zero_le _) (Nat.zero_le _) h (fun v τ h => ?_) (fun x τ h => ?_)
    · obtain ⟨v, e1, h⟩ := h; cases e1; exact j_sel [1, 0] rfl h
    · obtain ⟨v, e1, h⟩ := h; cases e1
  · have h := h2 k1
    refine j_aload_n d_M_build_34 1 rfl ?_
    refine j_aload_n d_M_build_35 1 rfl ?_
    refine zj_getI (z σ 94 48) f_M_237 d_M_build_36 (tg_94 hE) (q_okE hE (by decide)) (q_z _ _ _) ?_
    refine j_aload_n d_M_build_39 1 rfl ?_
    refine zj_getI (z σ 94 49) f_M_240 d_M_build_40 (tg_94 hE) (q_okE hE (by decide)) (q_z _ _ _) ?_
    refine j_callV m_M_refused [.int (zI (z σ 94 48)), .int (zI (z σ 94 49))] [] d 0 0 cV_M_342 d_M_build_43 rfl rfl (tg_94 hE) (q_okE hE (by decide)) (Nat.le_of_ble_eq_true rfl) (Nat.le_refl _) (Nat.le_of_ble_eq_true rfl) (Nat.zero_le _) (Nat.zero_le _) h (fun v τ h => ?_) (fun x τ h => ?_)
    · obtain ⟨v, hv, e1, h⟩ := h; cases e1; exact j_sel [] rfl h
    · obtain ⟨v, hv, e1, h⟩ := h; cases e1
set_option maxHeartbeats 2000000 in
theorem b_M_build_52 {ω : q_W} {σ : q_H} {Q : q_R → q_H → Prop} {d mc ms : Nat} {x1 : Int} {y0 : Int64} {s : Nat} (hs : s = 110 ∨ s = 116) (rs0 : q_r σ 94 32 = s) (rs1 : q_r σ 94 33 = (s + 1)) (rs2 : q_r σ 94 34 = (s + 2)) (rs3 : q_r σ 94 35 = (s + 3)) (rs4 : q_r σ 94 36 = (s + 4)) (rs5 : q_r σ 94 37 = (s + 5)) {u : Nat} (hu : u = 110 ∨ u = 116) (ru0 : q_r σ 94 38 = u) (ru1 : q_r σ 94 39 = (u + 1)) (ru2 : q_r σ 94 40 = (u + 2)) (ru3 : q_r σ 94 41 = (u + 3)) (ru4 : q_r σ 94 42 = (u + 4)) (ru5 : q_r σ 94 43 = (u + 5)) (hE : q_E σ) (h : q_imp (¬ y0 > 1500) ((J ω m_M_build (d + 1) mc ms 0 0 133 [(0, .ref 94), (4, .int (zI 0))] [] (zs (zs (zs (zs (zs (zs (zs (zs (zs σ 94 0 0) 94 2 0) 94 31 1) 94 45 x1) 94 30 (zL y0)) 94 26 (z σ 94 18)) 94 27 (z σ 94 19)) 94 28 (z σ 94 21)) 94 29 (z σ 94 20)) Q)) ∧ q_imp (y0 > 1500) ((J ω m_M_refused d 0 0 0 0 0 [(0, .ref 94), (1, .int (zI 7)), (2, .int (zI (z σ 94 2)))] [] σ (q_ki (fun v τ => J ω m_M_build (d + 1) mc ms 0 0 71 [] [.int (zI v)] τ Q))))) : J ω m_M_build (d + 1) mc ms 0 0 52 [(0, .ref 94), (1, .int (zI x1))] [.long y0] σ Q := by
  refine j_lstore_n (L' := [(2, .long y0), (0, .ref 94), (1, .int (zI x1))]) d_M_build_52 (by decide) rfl ?_
  refine j_lload_n d_M_build_53 0 rfl ?_
  refine j_ldc2 (v := 1500) (List.mem_of_getElem? (i := 1951) (by decide +kernel)) d_M_build_54 ?_
  obtain ⟨h1, h2⟩ := h
  refine zj_lcmp_le 72 d_M_build_57 d_M_build_58 (by decide) (fun k2 => ?_) (fun k2 => ?_)
  · have h := h1 k2
    refine j_aload_n d_M_build_72 1 rfl ?_
    refine j_iconst (v := zI 0) d_M_build_73 (by decide) ?_
    refine zj_putI (g_M_141 _) d_M_build_74 (tg_94 hE) (q_okE hE (by decide)) ?_
    refine j_aload_n d_M_build_77 1 rfl ?_
    refine j_iconst (v := zI 0) d_M_build_78 (by decide) ?_
    refine zj_putI (g_M_144 _) d_M_build_79 (tg_94 (zs_E hE)) (q_okE (zs_E hE) (by decide)) ?_
    refine j_aload_n d_M_build_82 1 rfl ?_
    refine j_iconst (v := zI 1) d_M_build_83 (by decide) ?_
    refine zj_putZ (g_M_347 _) d_M_build_84 (tg_94 (zs_E (zs_E hE))) (q_okE (zs_E (zs_E hE)) (by decide)) (by decide) ?_
    refine j_aload_n d_M_build_87 1 rfl ?_
    refine j_iload_n d_M_build_88 2 rfl ?_
    refine zj_putI (g_M_351 _) d_M_build_89 (tg_94 (zs_E (zs_E (zs_E hE)))) (q_okE (zs_E (zs_E (zs_E hE))) (by decide)) ?_
    refine j_aload_n d_M_build_92 1 rfl ?_
    refine j_lload_n d_M_build_93 0 rfl ?_
    refine zj_l2i d_M_build_94 ?_
    refine zj_putI (g_M_354 _) d_M_build_95 (tg_94 (zs_E (zs_E (zs_E (zs_E hE))))) (q_okE (zs_E (zs_E (zs_E (zs_E hE)))) (by decide)) ?_
    refine j_aload_n d_M_build_98 1 rfl ?_
    refine j_aload_n d_M_build_99 1 rfl ?_
    refine zj_getI (z σ 94 18) f_M_264 d_M_build_100 (tg_94 (zs_E (zs_E (zs_E (zs_E (zs_E hE)))))) (q_okE (zs_E (zs_E (zs_E (zs_E (zs_E hE))))) (by decide)) (Eq.trans (qs_k (by decide)) (Eq.trans (qs_k (by decide)) (Eq.trans (qs_k (by decide)) (Eq.trans (qs_k (by decide)) (Eq.trans (qs_k (by decide)) (q_z _ _ _)))))) ?_
    refine zj_putI (g_M_357 _) d_M_build_103 (tg_94 (zs_E (zs_E (zs_E (zs_E (zs_E hE)))))) (q_okE (zs_E (zs_E (zs_E (zs_E (zs_E hE))))) (by decide)) ?_
    refine j_aload_n d_M_build_106 1 rfl ?_
    refine j_aload_n d_M_build_107 1 rfl ?_
    refine zj_getI (z σ 94 19) f_M_261 d_M_build_108 (tg_94 (zs_E (zs_E (zs_E (zs_E (zs_E (zs_E hE))))))) (q_okE (zs_E (zs_E (zs_E (zs_E (zs_E (zs_E hE)))))) (by decide)) (Eq.trans (qs_k (by decide)) (Eq.trans (qs_k (by decide)) (Eq.trans (qs_k (by decide)) (Eq.trans (qs_k (by decide)) (Eq.trans (qs_k (by decide)) (Eq.trans (qs_k (by decide)) (q_z _ _ _))))))) ?_
    refine zj_putI (g_M_360 _) d_M_build_111 (tg_94 (zs_E (zs_E (zs_E (zs_E (zs_E (zs_E hE))))))) (q_okE (zs_E (zs_E (zs_E (zs_E (zs_E (zs_E hE)))))) (by decide)) ?_
    refine j_aload_n d_M_build_114 1 rfl ?_
    refine j_aload_n d_M_build_115 1 rfl ?_
    refine zj_getI (z σ 94 21) f_M_280 d_M_build_116 (tg_94 (zs_E (zs_E (zs_E (zs_E (zs_E (zs_E (zs_E hE)))))))) (q_okE (zs_E (zs_E (zs_E (zs_E (zs_E (zs_E (zs_E hE))))))) (by decide)) (Eq.trans (qs_k (by decide)) (Eq.trans (qs_k (by decide)) (Eq.trans (qs_k (by decide)) (Eq.trans (qs_k (by decide)) (Eq.trans (qs_k (by decide)) (Eq.trans (qs_k (by decide)) (Eq.trans (qs_k (by decide)) (q_z _ _ _)))))))) ?_
    refine zj_putI (g_M_363 _) d_M_build_119 (tg_94 (zs_E (zs_E (zs_E (zs_E (zs_E (zs_E (zs_E hE)))))))) (q_okE (zs_E (zs_E (zs_E (zs_E (zs_E (zs_E (zs_E hE))))))) (by decide)) ?_
    refine j_aload_n d_M_build_122 1 rfl ?_
    refine j_aload_n d_M_build_123 1 rfl ?_
    refine zj_getI (z σ 94 20) f_M_258 d_M_build_124 (tg_94 (zs_E (zs_E (zs_E (zs_E (zs_E (zs_E (zs_E (zs_E hE))))))))) (q_okE (zs_E (zs_E (zs_E (zs_E (zs_E (zs_E (zs_E (zs_E hE)))))))) (by decide)) (Eq.trans (qs_k (by decide)) (Eq.trans (qs_k (by decide)) (Eq.trans (qs_k (by decide)) (Eq.trans (qs_k (by decide)) (Eq.trans (qs_k (by decide)) (Eq.trans (qs_k (by decide)) (Eq.trans (qs_k (by decide)) (Eq.trans (qs_k (by decide)) (q_z _ _ _))))))))) ?_
    refine zj_putI (g_M_366 _) d_M_build_127 (tg_94 (zs_E (zs_E (zs_E (zs_E (zs_E (zs_E (zs_E (zs_E hE))))))))) (q_okE (zs_E (zs_E (zs_E (zs_E (zs_E (zs_E (zs_E (zs_E hE)))))))) (by decide)) ?_
    refine j_iconst (v := zI 0) d_M_build_130 (by decide) ?_
    refine j_istore (L' := [(4, .int (zI 0)), (2, .long y0), (0, .ref 94), (1, .int (zI x1))]) d_M_build_131 (by decide) rfl ?_
    exact j_sel [2, 0] rfl h
  · have h := h2 k2
    refine j_aload_n d_M_build_61 1 rfl ?_
    refine j_bipush (v := zI 7) d_M_build_62 (by decide) ?_
    refine j_aload_n d_M_build_64 1 rfl ?_
    refine zj_getI (z σ 94 2) f_M_144 d_M_build_65 (tg_94 hE) (q_okE hE (by decide)) (q_z _ _ _) ?_
    refine j_callV m_M_refused [.int (zI 7), .int (zI (z σ 94 2))] [] d 0 0 cV_M_342 d_M_build_68 rfl rfl (tg_94 hE) (q_okE hE (by decide)) (Nat.le_of_ble_eq_true rfl) (Nat.le_refl _) (Nat.le_of_ble_eq_true rfl) (Nat.zero_le _) (Nat.zero_le _) h (fun v τ h => ?_) (fun x τ h => ?_)
    · obtain ⟨v, hv, e1, h⟩ := h; cases e1; exact j_sel [] rfl h
    · obtain ⟨v, hv, e1, h⟩ := h; cases e1
set_option maxHeartbeats 2000000 in
theorem b_M_build_46 {ω : q_W} {σ : q_H} {Q : q_R → q_H → Prop} {d mc ms : Nat} {y0 : Int} {s : Nat} (hs : s = 110 ∨ s = 116) (rs0 : q_r σ 94 32 = s) (rs1 : q_r σ 94 33 = (s + 1)) (rs2 : q_r σ 94 34 = (s + 2)) (rs3 : q_r σ 94 35 = (s + 3)) (rs4 : q_r σ 94 36 = (s + 4)) (rs5 : q_r σ 94 37 = (s + 5)) {u : Nat} (hu : u = 110 ∨ u = 116) (ru0 : q_r σ 94 38 = u) (ru1 : q_r σ 94 39 = (u + 1)) (ru2 : q_r σ 94 40 = (u + 2)) (ru3 : q_r σ 94 41 = (u + 3)) (ru4 : q_r σ 94 42 = (u + 4)) (ru5 : q_r σ 94 43 = (u + 5)) (hE : q_E σ) (h : (Q (.inl (some (.int (zI y0)))) σ)) : J ω m_M_build (d + 1) mc ms 0 0 46 [] [.int (zI y0)] σ Q := by
  exact zj_iret d_M_build_46 rfl (Nat.zero_le _) (Nat.zero_le _) h
set_option maxHeartbeats 2000000 in
theorem b_M_build_133 {ω : q_W} {σ : q_H} {Q : q_R → q_H → Prop} {d mc ms : Nat} {x4 : Int} {s : Nat} (hs : s = 110 ∨ s = 116) (rs0 : q_r σ 94 32 = s) (rs1 : q_r σ 94 33 = (s + 1)) (rs2 : q_r σ 94 34 = (s + 2)) (rs3 : q_r σ 94 35 = (s + 3)) (rs4 : q_r σ 94 36 = (s + 4)) (rs5 : q_r σ 94 37 = (s + 5)) {u : Nat} (hu : u = 110 ∨ u = 116) (ru0 : q_r σ 94 38 = u) (ru1 : q_r σ 94 39 = (u + 1)) (ru2 : q_r σ 94 40 = (u + 2)) (ru3 : q_r σ 94 41 = (u + 3)) (ru4 : q_r σ 94 42 = (u + 4)) (ru5 : q_r σ 94 43 = (u + 5)) (hE : q_E σ) (h : inR x4 ∧ q_imp (x4 ≥ 16) ((Q (.inl (some (.int (zI (z σ 94 28))))) (zs (zs (zs σ 94 62 (-1)) 94 63 (-1)) 94 55 0))) ∧ q_imp (x4 < 16) ((0 ≤ x4 ∧ x4 < 16) ∧ (J ω m_M_build (d + 1) mc ms 0 0 133 [(0, .ref 94), (4, .int (zI (x4 + 1)))] [] (zs (zs (zs (zs σ 106 x4.toNat (z σ 108 x4.toNat)) 107 x4.toNat (z σ 109 x4.toNat)) 126 x4.toNat 0) 129 x4.toNat 0) Q))) : J ω m_M_build (d + 1) mc ms 0 0 133 [(0, .ref 94), (4, .int (zI x4))] [] σ Q := by
  refine j_iload d_M_build_133 1 rfl ?_
  refine j_bipush (v := zI 16) d_M_build_135 (by decide) ?_
  obtain ⟨r3, h⟩ := h
  obtain ⟨h1, h2⟩ := h
  refine zj_icmp_ge 190 d_M_build_137 (by decide) r3 ⟨by decide, by decide⟩ (fun k4 => ?_) (fun k4 => ?_)
  · have h := h1 k4
    refine j_aload_n d_M_build_190 0 rfl ?_
    refine j_iconst (v := zI (-1)) d_M_build_191 (by decide) ?_
    refine zj_putI (g_M_129 _) d_M_build_192 (tg_94 hE) (q_okE hE (by decide)) ?_
    refine j_aload_n d_M_build_195 0 rfl ?_
    refine j_iconst (v := zI (-1)) d_M_build_196 (by decide) ?_
    refine zj_putI (g_M_132 _) d_M_build_197 (tg_94 (zs_E hE)) (q_okE (zs_E hE) (by decide)) ?_
    refine j_aload_n d_M_build_200 0 rfl ?_
    refine j_iconst (v := zI 0) d_M_build_201 (by decide) ?_
    refine zj_putZ (g_M_369 _) d_M_build_202 (tg_94 (zs_E (zs_E hE))) (q_okE (zs_E (zs_E hE)) (by decide)) (by decide) ?_
    refine j_aload_n d_M_build_205 0 rfl ?_
    refine zj_getI (z σ 94 28) f_M_363 d_M_build_206 (tg_94 (zs_E (zs_E (zs_E hE)))) (q_okE (zs_E (zs_E (zs_E hE))) (by decide)) (Eq.trans (qs_k (by decide)) (Eq.trans (qs_k (by decide)) (Eq.trans (qs_k (by decide)) (q_z _ _ _)))) ?_
    exact zj_iret d_M_build_209 rfl (Nat.zero_le _) (Nat.zero_le _) h
  · have h := h2 k4
    refine j_aload_n d_M_build_140 0 rfl ?_
    refine j_getR 106 f_M_49 d_M_build_141 (tg_94 hE) (q_okE hE (by decide)) (rf_94_22 hE) (by decide) ?_
    refine j_iload d_M_build_144 1 rfl ?_
    refine j_aload_n d_M_build_146 0 rfl ?_
    refine j_getR 108 f_M_55 d_M_build_147 (tg_94 hE) (q_okE hE (by decide)) (rf_94_24 hE) (by decide) ?_
    refine j_iload d_M_build_150 1 rfl ?_
    obtain ⟨c5, h⟩ := h
    refine zj_iald (z σ 108 x4.toNat) d_M_build_152 (tg_108 hE) (q_okE hE (by decide)) c5 (by decide) (q_z _ _ _) ?_
    refine zj_iast d_M_build_153 (tg_106 hE) (q_okE hE (by decide)) c5 (by decide) ?_
    refine j_aload_n d_M_build_154 0 rfl ?_
    refine j_getR 107 f_M_52 d_M_build_155 (tg_94 (zs_E hE)) (q_okE (zs_E hE) (by decide)) (rf_94_23 (zs_E hE)) (by decide) ?_
    refine j_iload d_M_build_158 1 rfl ?_
    refine j_aload_n d_M_build_160 0 rfl ?_
    refine j_getR 109 f_M_58 d_M_build_161 (tg_94 (zs_E hE)) (q_okE (zs_E hE) (by decide)) (rf_94_25 (zs_E hE)) (by decide) ?_
    refine j_iload d_M_build_164 1 rfl ?_
    refine zj_iald (z σ 109 x4.toNat) d_M_build_166 (tg_109 (zs_E hE)) (q_okE (zs_E hE) (by decide)) c5 (by decide) (Eq.trans (qs_o (by decide)) (q_z _ _ _)) ?_
    refine zj_iast d_M_build_167 (tg_107 (zs_E hE)) (q_okE (zs_E hE) (by decide)) c5 (by decide) ?_
    refine j_aload_n d_M_build_168 0 rfl ?_
    refine j_getR 126 f_M_117 d_M_build_169 (tg_94 (zs_E (zs_E hE))) (q_okE (zs_E (zs_E hE)) (by decide)) (rf_94_57 (zs_E (zs_E hE))) (by decide) ?_
    refine j_iload d_M_build_172 1 rfl ?_
    refine j_iconst (v := zI 0) d_M_build_174 (by decide) ?_
    refine zj_iast d_M_build_175 (tg_126 (zs_E (zs_E hE))) (q_okE (zs_E (zs_E hE)) (by decide)) c5 (by decide) ?_
    refine j_aload_n d_M_build_176 0 rfl ?_
    refine j_getR 129 f_M_126 d_M_build_177 (tg_94 (zs_E (zs_E (zs_E hE)))) (q_okE (zs_E (zs_E (zs_E hE))) (by decide)) (rf_94_60 (zs_E (zs_E (zs_E hE)))) (by decide) ?_
    refine j_iload d_M_build_180 1 rfl ?_
    refine j_iconst (v := zI 0) d_M_build_182 (by decide) ?_
    refine zj_iast d_M_build_183 (tg_129 (zs_E (zs_E (zs_E hE)))) (q_okE (zs_E (zs_E (zs_E hE))) (by decide)) c5 (by decide) ?_
    refine zj_iinc (L' := [(4, .int (zI (x4 + 1))), (0, .ref 94)]) (x4 + 1) d_M_build_184 1 rfl (by omega) (by decide) rfl ?_
    refine j_goto 133 d_M_build_187 (by decide) ?_
    exact j_sel [1, 0] rfl h
set_option maxHeartbeats 2000000 in
theorem b_M_build_71 {ω : q_W} {σ : q_H} {Q : q_R → q_H → Prop} {d mc ms : Nat} {y0 : Int} {s : Nat} (hs : s = 110 ∨ s = 116) (rs0 : q_r σ 94 32 = s) (rs1 : q_r σ 94 33 = (s + 1)) (rs2 : q_r σ 94 34 = (s + 2)) (rs3 : q_r σ 94 35 = (s + 3)) (rs4 : q_r σ 94 36 = (s + 4)) (rs5 : q_r σ 94 37 = (s + 5)) {u : Nat} (hu : u = 110 ∨ u = 116) (ru0 : q_r σ 94 38 = u) (ru1 : q_r σ 94 39 = (u + 1)) (ru2 : q_r σ 94 40 = (u + 2)) (ru3 : q_r σ 94 41 = (u + 3)) (ru4 : q_r σ 94 42 = (u + 4)) (ru5 : q_r σ 94 43 = (u + 5)) (hE : q_E σ) (h : (Q (.inl (some (.int (zI y0)))) σ)) : J ω m_M_build (d + 1) mc ms 0 0 71 [] [.int (zI y0)] σ Q := by
  exact zj_iret d_M_build_71 rfl (Nat.zero_le _) (Nat.zero_le _) h
set_option maxHeartbeats 2000000 in
theorem b_M_build_16 {ω : q_W} {σ : q_H} {Q : q_R → q_H → Prop} {d mc ms : Nat}  {s : Nat} (hs : s = 110 ∨ s = 116) (rs0 : q_r σ 94 32 = s) (rs1 : q_r σ 94 33 = (s + 1)) (rs2 : q_r σ 94 34 = (s + 2)) (rs3 : q_r σ 94 35 = (s + 3)) (rs4 : q_r σ 94 36 = (s + 4)) (rs5 : q_r σ 94 37 = (s + 5)) {u : Nat} (hu : u = 110 ∨ u = 116) (ru0 : q_r σ 94 38 = u) (ru1 : q_r σ 94 39 = (u + 1)) (ru2 : q_r σ 94 40 = (u + 2)) (ru3 : q_r σ 94 41 = (u + 3)) (ru4 : q_r σ 94 42 = (u + 4)) (ru5 : q_r σ 94 43 = (u + 5)) (hE : q_E σ) (h : (J ω m_M_refused d 0 0 0 0 0 [(0, .ref 94), (1, .int (zI 1)), (2, .int (zI (z σ 94 10)))] [] σ (q_ki (fun v τ => J ω m_M_build (d + 1) mc ms 0 0 26 [] [.int (zI v)] τ Q)))) : J ω m_M_build (d + 1) mc ms 0 0 16 [(0, .ref 94)] [.ref 100] σ Q := by
  refine j_astore_n (L' := [(2, .ref 100), (0, .ref 94)]) d_M_build_16 (by decide) rfl ?_
  refine j_aload_n d_M_build_17 1 rfl ?_
  refine j_iconst (v := zI 1) d_M_build_18 (by decide) ?_
  refine j_aload_n d_M_build_19 1 rfl ?_
  refine zj_getI (z σ 94 10) f_M_221 d_M_build_20 (tg_94 hE) (q_okE hE (by decide)) (q_z _ _ _) ?_
  refine j_callV m_M_refused [.int (zI 1), .int (zI (z σ 94 10))] [] d 0 0 cV_M_342 d_M_build_23 rfl rfl (tg_94 hE) (q_okE hE (by decide)) (Nat.le_of_ble_eq_true rfl) (Nat.le_refl _) (Nat.le_of_ble_eq_true rfl) (Nat.zero_le _) (Nat.zero_le _) h (fun v τ h => ?_) (fun x τ h => ?_)
  · obtain ⟨v, hv, e1, h⟩ := h; cases e1; exact j_sel [] rfl h
  · obtain ⟨v, hv, e1, h⟩ := h; cases e1
set_option maxHeartbeats 2000000 in
theorem b_M_build_26 {ω : q_W} {σ : q_H} {Q : q_R → q_H → Prop} {d mc ms : Nat} {y0 : Int} {s : Nat} (hs : s = 110 ∨ s = 116) (rs0 : q_r σ 94 32 = s) (rs1 : q_r σ 94 33 = (s + 1)) (rs2 : q_r σ 94 34 = (s + 2)) (rs3 : q_r σ 94 35 = (s + 3)) (rs4 : q_r σ 94 36 = (s + 4)) (rs5 : q_r σ 94 37 = (s + 5)) {u : Nat} (hu : u = 110 ∨ u = 116) (ru0 : q_r σ 94 38 = u) (ru1 : q_r σ 94 39 = (u + 1)) (ru2 : q_r σ 94 40 = (u + 2)) (ru3 : q_r σ 94 41 = (u + 3)) (ru4 : q_r σ 94 42 = (u + 4)) (ru5 : q_r σ 94 43 = (u + 5)) (hE : q_E σ) (h : (Q (.inl (some (.int (zI y0)))) σ)) : J ω m_M_build (d + 1) mc ms 0 0 26 [] [.int (zI y0)] σ Q := by
  exact zj_iret d_M_build_26 rfl (Nat.zero_le _) (Nat.zero_le _) h
