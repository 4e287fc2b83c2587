set_option maxRecDepth 100000 in
theorem y_build {ω : q_W} : q_okI (fun Qx => J ω m_L_build 2000 1 6 0 0 0 [(0, .ref 1), (1, .ref 132)] [] q_s1 Qx) (fun τ Qx => J ω m_M_build 2000 0 0 0 0 0 [(0, .ref 94)] [] τ Qx) (fun _ => True) := by
  refine j_deep (d := 4) (by decide) (c_L_build q_E1 (j_more (mc := 0) (ms := 0) (by decide) (by decide) (j_mono (fun r τ h => ?_) (p_H_build_1 q_E1 (by decide +kernel) (by decide +kernel) (by decide +kernel)))))
  obtain ⟨rfl, rfl⟩ := h
  refine ⟨e_H_build_1 q_E1, 0, rfl, q_E_l (e_H_build_1 q_E1), ?_⟩
  refine j_deep (d := 2) (by decide) (j_mono (fun r2 τ2 h2 => ?_) (p_M_build_1 (q_E_l (e_H_build_1 q_E1)) (by decide +kernel) (by decide +kernel) (by decide +kernel) (by decide +kernel) (by decide +kernel) (by decide +kernel) (by decide +kernel) (by decide +kernel) (by decide +kernel) (by decide +kernel) (by decide +kernel) (by decide +kernel) (by decide +kernel) (by decide +kernel) (by decide +kernel) (by decide +kernel) (by decide +kernel) (by decide +kernel) (by decide +kernel) (by decide +kernel) (by decide +kernel) (by decide +kernel) (by decide +kernel) (by decide +kernel) (by decide +kernel) (by decide +kernel) (by decide +kernel) (by decide +kernel) (by decide +kernel) (by decide +kernel) (by decide +kernel) (by decide +kernel) (by decide +kernel) (by decide +kernel) (by decide +kernel) (by decide +kernel) (by decide +kernel) (by decide +kernel) (by decide +kernel) (by decide +kernel) (by decide +kernel) (by decide +kernel) (by decide +kernel) (by decide +kernel) (by decide +kernel)))
  obtain ⟨rfl, rfl⟩ := h2
  exact ⟨0, rfl, e_M_build_1 (q_E_l (e_H_build_1 q_E1)), (by decide +kernel), fun _ => (by decide +kernel), trivial⟩
theorem y_n : q_n q_s1 < 900000 := by decide +kernel
theorem y_b : q_i q_s1 1 4 = 0 := by decide +kernel
theorem y_m : q_i q_s1 94 31 = 0 := by decide +kernel
theorem y_count {ω : q_W} {a : Int32} : q_okC (fun Qx => J ω m_H_count 2000 0 0 0 0 0 [(0, .ref 1), (1, .int a)] [] q_s1 Qx) (fun τ Qx => J ω m_M_count 2000 0 0 0 0 0 [(0, .ref 94), (1, .int a)] [] τ Qx) (fun _ => True) := by
  refine tk_count (p := 16) q_E1 (by decide +kernel) (by decide +kernel) (by decide +kernel) (Or.inl (by decide +kernel)) (Or.inl (by decide +kernel)) (fun j hj => ?_) trivial
  rcases (show j = 0 ∨ j = 1 ∨ j = 2 ∨ j = 3 ∨ j = 4 ∨ j = 5 ∨ j = 6 ∨ j = 7 ∨ j = 8 ∨ j = 9 by omega) with rfl | rfl | rfl | rfl | rfl | rfl | rfl | rfl | rfl | rfl <;> decide +kernel
theorem y_oks (ω : q_W) : q_oks ω (fun _ => True) q_s1 0 :=
  ⟨tk_feed q_E1 y_n (l := 0) (by decide +kernel) (by decide +kernel) (by decide) (fun _ => trivial) (fun _ => trivial),
   tk_end q_E1 y_n (l := 0) (by decide +kernel) (by decide +kernel) (by decide) (fun _ _ _ => trivial) trivial,
   y_build,
   tk_fails q_E1 y_n y_b y_m trivial,
   tk_failsAt q_E1 y_n y_b y_m trivial,
   tk_least q_E1 y_n y_b y_m trivial,
   tk_greatest q_E1 y_n y_b y_m trivial,
   tk_differ q_E1 y_n y_b y_m trivial,
   tk_can q_E1 y_n y_b y_m trivial,
   tk_ends q_E1 y_n y_b y_m trivial,
   tk_witness q_E1 y_n y_b y_m trivial,
   tk_set q_E1 y_n y_b y_m trivial,
   tk_take q_E1 y_n y_b y_m trivial,
   tk_run q_E1 y_n y_b y_m trivial,
   tk_value q_E1 y_n y_b y_m trivial,
   y_count⟩
theorem y_goal : q_goal := by
  intro ω hL
  refine lw_entry ?_
  by_cases h0 : q_sL ω < 6
  · exact lw_out (by omega) (by decide) (by omega) (by decide) (by decide) rfl
  · refine lw_in (by omega) (by omega) (lw_step (P := fun _ => True) q_E1 (by omega) (by omega) (by decide) (by decide) (y_oks ω) (fun τ _ _ => lw_next ?_))
    exact lw_out (by omega) (by decide) (by omega) (by decide) (by decide) rfl
