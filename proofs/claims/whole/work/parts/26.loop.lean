theorem d_law_0 : decode m_law.2.1 0 = .ok (.new 8, 3) := by decide +kernel
theorem d_law_3 : decode m_law.2.1 3 = .ok (.dup, 1) := by decide +kernel
theorem d_law_4 : decode m_law.2.1 4 = .ok (.invokespecial 67, 3) := by decide +kernel
theorem d_law_7 : decode m_law.2.1 7 = .ok (.astore_n 1, 1) := by decide +kernel
theorem d_law_8 : decode m_law.2.1 8 = .ok (.new 68, 3) := by decide +kernel
theorem d_law_11 : decode m_law.2.1 11 = .ok (.dup, 1) := by decide +kernel
theorem d_law_12 : decode m_law.2.1 12 = .ok (.invokespecial 70, 3) := by decide +kernel
theorem d_law_15 : decode m_law.2.1 15 = .ok (.astore_n 2, 1) := by decide +kernel
theorem d_law_16 : decode m_law.2.1 16 = .ok (.iconst 1, 1) := by decide +kernel
theorem d_law_17 : decode m_law.2.1 17 = .ok (.newarray .long, 2) := by decide +kernel
theorem d_law_19 : decode m_law.2.1 19 = .ok (.astore_n 3, 1) := by decide +kernel
theorem d_law_20 : decode m_law.2.1 20 = .ok (.iconst 0, 1) := by decide +kernel
theorem d_law_21 : decode m_law.2.1 21 = .ok (.istore 4, 2) := by decide +kernel
theorem d_law_23 : decode m_law.2.1 23 = .ok (.iload 4, 2) := by decide +kernel
theorem d_law_25 : decode m_law.2.1 25 = .ok (.aload_n 0, 1) := by decide +kernel
theorem d_law_26 : decode m_law.2.1 26 = .ok (.arraylength, 1) := by decide +kernel
theorem d_law_27 : decode m_law.2.1 27 = .ok (.bipush 6, 2) := by decide +kernel
theorem d_law_29 : decode m_law.2.1 29 = .ok (.isub, 1) := by decide +kernel
theorem d_law_30 : decode m_law.2.1 30 = .ok (.if_icmp .gt 945, 3) := by decide +kernel
theorem d_law_33 : decode m_law.2.1 33 = .ok (.aload_n 0, 1) := by decide +kernel
theorem d_law_34 : decode m_law.2.1 34 = .ok (.iload 4, 2) := by decide +kernel
theorem d_law_36 : decode m_law.2.1 36 = .ok (.iaload, 1) := by decide +kernel
theorem d_law_37 : decode m_law.2.1 37 = .ok (.bipush 15, 2) := by decide +kernel
theorem d_law_39 : decode m_law.2.1 39 = .ok (.iand, 1) := by decide +kernel
theorem d_law_40 : decode m_law.2.1 40 = .ok (.tableswitch 929 0 15 #[80, 184, 240, 284, 328, 384, 440, 496, 564, 632, 676, 732, 780, 804, 848, 904], 80) := by decide +kernel
theorem d_law_969 : decode m_law.2.1 969 = .ok (.iinc 4 6, 3) := by decide +kernel
theorem d_law_972 : decode m_law.2.1 972 = .ok (.goto (-949), 3) := by decide +kernel
theorem d_law_975 : decode m_law.2.1 975 = .ok (.iconst 1, 1) := by decide +kernel
theorem d_law_976 : decode m_law.2.1 976 = .ok (.ireturn, 1) := by decide +kernel
theorem n_L_8 : q_N "ProofHallLaw" 8 0 10 := ⟨_, _, rfl, List.mem_of_getElem? (i := 31) (by decide +kernel), List.mem_of_getElem? (i := 32) (by decide +kernel), List.mem_of_getElem? (i := 1) (by decide +kernel)⟩
theorem n_L_68 : q_N "ProofHallLaw" 68 12 67 := ⟨_, _, rfl, List.mem_of_getElem? (i := 1510) (by decide +kernel), List.mem_of_getElem? (i := 1511) (by decide +kernel), List.mem_of_getElem? (i := 17) (by decide +kernel)⟩
theorem cd_H_init : q_cd m_H_init := ⟨by decide +kernel, List.mem_of_getElem? (i := 1) (by decide +kernel), Or.inl ⟨rfl, List.mem_of_getElem? (i := 35) (by decide +kernel)⟩⟩
theorem cI_L_67 : q_CI "ProofHallLaw" 67 m_H_init 0 := ⟨⟨cd_H_init, by decide, by decide, by decide, by decide +kernel⟩, Or.inl (List.mem_of_getElem? (i := 33) (by decide +kernel)), List.mem_of_getElem? (i := 34) (by decide +kernel), rfl, List.mem_of_getElem? (i := 35) (by decide +kernel)⟩
theorem cd_M_init : q_cd m_M_init := ⟨by decide +kernel, List.mem_of_getElem? (i := 17) (by decide +kernel), Or.inl ⟨rfl, List.mem_of_getElem? (i := 1514) (by decide +kernel)⟩⟩
theorem cI_L_70 : q_CI "ProofHallLaw" 70 m_M_init 0 := ⟨⟨cd_M_init, by decide, by decide, by decide, by decide +kernel⟩, Or.inl (List.mem_of_getElem? (i := 1512) (by decide +kernel)), List.mem_of_getElem? (i := 1513) (by decide +kernel), rfl, List.mem_of_getElem? (i := 1514) (by decide +kernel)⟩
/-- each of the sixteen calls is answered alike, and P holds behind it -/
def q_oks (ω : q_W) (P : q_H → Prop) (σ : q_H) (j : Nat) : Prop := (q_okI (fun Qx => J ω m_L_feed 2000 1 6 0 0 0 [(0, .ref 1), (1, .int (q_sx ω (j + 1))), (2, .int (q_sx ω (j + 2))), (3, .int (q_sx ω (j + 3))), (4, .int (q_sx ω (j + 4))), (5, .int (q_sx ω (j + 5))), (6, .ref 132)] [] σ Qx) (fun τ Qx => J ω m_M_feed 2000 0 0 0 0 0 [(0, .ref 94), (1, .int (q_sx ω (j + 1))), (2, .int (q_sx ω (j + 2))), (3, .int (q_sx ω (j + 3))), (4, .int (q_sx ω (j + 4))), (5, .int (q_sx ω (j + 5)))] [] τ Qx) P) ∧
  (q_okI (fun Qx => J ω m_L_end 2000 1 6 0 0 0 [(0, .ref 1), (1, .int (q_sx ω (j + 1))), (2, .ref 132)] [] σ Qx) (fun τ Qx => J ω m_M_end 2000 0 0 0 0 0 [(0, .ref 94), (1, .int (q_sx ω (j + 1)))] [] τ Qx) P) ∧
  (q_okI (fun Qx => J ω m_L_build 2000 1 6 0 0 0 [(0, .ref 1), (1, .ref 132)] [] σ Qx) (fun τ Qx => J ω m_M_build 2000 0 0 0 0 0 [(0, .ref 94)] [] τ Qx) P) ∧
  (q_okI (fun Qx => J ω m_L_fails 2000 1 6 0 0 0 [(0, .ref 1), (1, .ref 132)] [] σ Qx) (fun τ Qx => J ω m_M_fails 2000 0 0 0 0 0 [(0, .ref 94)] [] τ Qx) P) ∧
  (q_okI (fun Qx => J ω m_L_failsAt 2000 1 6 0 0 0 [(0, .ref 1), (1, .int (q_sx ω (j + 1))), (2, .ref 132)] [] σ Qx) (fun τ Qx => J ω m_M_failsAt 2000 0 0 0 0 0 [(0, .ref 94), (1, .int (q_sx ω (j + 1)))] [] τ Qx) P) ∧
  (q_okI (fun Qx => J ω m_L_least 2000 1 6 0 0 0 [(0, .ref 1), (1, .int (q_sx ω (j + 1))), (2, .ref 132)] [] σ Qx) (fun τ Qx => J ω m_M_least 2000 0 0 0 0 0 [(0, .ref 94), (1, .int (q_sx ω (j + 1)))] [] τ Qx) P) ∧
  (q_okI (fun Qx => J ω m_L_greatest 2000 1 6 0 0 0 [(0, .ref 1), (1, .int (q_sx ω (j + 1))), (2, .ref 132)] [] σ Qx) (fun τ Qx => J ω m_M_greatest 2000 0 0 0 0 0 [(0, .ref 94), (1, .int (q_sx ω (j + 1)))] [] τ Qx) P) ∧
  (q_okI (fun Qx => J ω m_L_differ 2000 1 6 0 0 0 [(0, .ref 1), (1, .int (q_sx ω (j + 1))), (2, .int (q_sx ω (j + 2))), (3, .ref 132)] [] σ Qx) (fun τ Qx => J ω m_M_differ 2000 0 0 0 0 0 [(0, .ref 94), (1, .int (q_sx ω (j + 1))), (2, .int (q_sx ω (j + 2)))] [] τ Qx) P) ∧
  (q_okI (fun Qx => J ω m_L_can 2000 1 6 0 0 0 [(0, .ref 1), (1, .int (q_sx ω (j + 1))), (2, .int (q_sx ω (j + 2))), (3, .ref 132)] [] σ Qx) (fun τ Qx => J ω m_M_can 2000 0 0 0 0 0 [(0, .ref 94), (1, .int (q_sx ω (j + 1))), (2, .int (q_sx ω (j + 2)))] [] τ Qx) P) ∧
  (q_okI (fun Qx => J ω m_L_ends 2000 1 6 0 0 0 [(0, .ref 1), (1, .ref 132)] [] σ Qx) (fun τ Qx => J ω m_M_ends 2000 0 0 0 0 0 [(0, .ref 94)] [] τ Qx) P) ∧
  (q_okI (fun Qx => J ω m_L_witness 2000 1 6 0 0 0 [(0, .ref 1), (1, .int (q_sx ω (j + 1))), (2, .ref 132)] [] σ Qx) (fun τ Qx => J ω m_M_witness 2000 0 0 0 0 0 [(0, .ref 94), (1, .int (q_sx ω (j + 1)))] [] τ Qx) P) ∧
  (q_okV (fun Qx => J ω m_L_set 2000 1 6 0 0 0 [(0, .ref 1), (1, .int (q_sx ω (j + 1))), (2, .int (q_sx ω (j + 2)))] [] σ Qx) (fun τ Qx => J ω m_M_set 2000 0 0 0 0 0 [(0, .ref 94), (1, .int (q_sx ω (j + 1))), (2, .int (q_sx ω (j + 2)))] [] τ Qx) P) ∧
  (q_okV (fun Qx => J ω m_L_take 2000 1 6 0 0 0 [(0, .ref 1)] [] σ Qx) (fun τ Qx => J ω m_M_take 2000 0 0 0 0 0 [(0, .ref 94)] [] τ Qx) P) ∧
  (q_okI (fun Qx => J ω m_L_run 2000 1 6 0 0 0 [(0, .ref 1), (1, .ref 132)] [] σ Qx) (fun τ Qx => J ω m_M_run 2000 0 0 0 0 0 [(0, .ref 94)] [] τ Qx) P) ∧
  (q_okI (fun Qx => J ω m_L_value 2000 1 6 0 0 0 [(0, .ref 1), (1, .int (q_sx ω (j + 1))), (2, .ref 132)] [] σ Qx) (fun τ Qx => J ω m_M_value 2000 0 0 0 0 0 [(0, .ref 94), (1, .int (q_sx ω (j + 1)))] [] τ Qx) P) ∧
  (q_okC (fun Qx => J ω m_H_count 2000 0 0 0 0 0 [(0, .ref 1), (1, .int (q_sx ω (j + 1)))] [] σ Qx) (fun τ Qx => J ω m_M_count 2000 0 0 0 0 0 [(0, .ref 94), (1, .int (q_sx ω (j + 1)))] [] τ Qx) P)
set_option maxHeartbeats 1000000 in
theorem lw_step {ω : q_W} {σ : q_H} {cs sl j : Nat} {Q : q_R → q_H → Prop} {P : q_H → Prop} (hE : q_E σ) (hi : j + 6 ≤ q_sL ω) (hL : q_sL ω ≤ 3072) (hc : cs + 1 ≤ 601024) (hs : sl + 6 ≤ 7293034) (ok : q_oks ω P σ j)
    (next : ∀ τ, q_E τ → P τ → J ω m_law 2048 601024 7293034 (cs + 1) (sl + 6) 969 [(4, .int (nI j)), (3, .ref 132), (2, .ref 94), (1, .ref 1), (0, .ref 1000000)] [] τ Q) : J ω m_law 2048 601024 7293034 cs sl 33 [(4, .int (nI j)), (3, .ref 132), (2, .ref 94), (1, .ref 1), (0, .ref 1000000)] [] σ Q := by
  refine j_aload_n d_law_33 4 rfl ?_
  refine j_iload d_law_34 0 rfl ?_
  refine j_scr j d_law_36 rfl (by omega) hL ?_
  refine j_bipush (v := 15) d_law_37 (by decide) ?_
  refine j_iand d_law_39 ?_
  obtain ⟨v, hv, ev⟩ := pk_andE (q_sx ω j) (m := 15) 4 (by decide)
  refine j_topE ev ?_
  rcases (show v = 0 ∨ v = 1 ∨ v = 2 ∨ v = 3 ∨ v = 4 ∨ v = 5 ∨ v = 6 ∨ v = 7 ∨ v = 8 ∨ v = 9 ∨ v = 10 ∨ v = 11 ∨ v = 12 ∨ v = 13 ∨ v = 14 ∨ v = 15 by omega) with rfl | rfl | rfl | rfl | rfl | rfl | rfl | rfl | rfl | rfl | rfl | rfl | rfl | rfl | rfl | rfl
  · exact j_tabIn 120 d_law_40 (by decide) (by decide) rfl (by decide) (lw_feed hE hi hL hc hs ok.1 next)
  · exact j_tabIn 224 d_law_40 (by decide) (by decide) rfl (by decide) (lw_end hE hi hL hc hs ok.2.1 next)
  · exact j_tabIn 280 d_law_40 (by decide) (by decide) rfl (by decide) (lw_build hE hi hL hc hs ok.2.2.1 next)
  · exact j_tabIn 324 d_law_40 (by decide) (by decide) rfl (by decide) (lw_fails hE hi hL hc hs ok.2.2.2.1 next)
  · exact j_tabIn 368 d_law_40 (by decide) (by decide) rfl (by decide) (lw_failsAt hE hi hL hc hs ok.2.2.2.2.1 next)
  · exact j_tabIn 424 d_law_40 (by decide) (by decide) rfl (by decide) (lw_least hE hi hL hc hs ok.2.2.2.2.2.1 next)
  · exact j_tabIn 480 d_law_40 (by decide) (by decide) rfl (by decide) (lw_greatest hE hi hL hc hs ok.2.2.2.2.2.2.1 next)
  · exact j_tabIn 536 d_law_40 (by decide) (by decide) rfl (by decide) (lw_differ hE hi hL hc hs ok.2.2.2.2.2.2.2.1 next)
  · exact j_tabIn 604 d_law_40 (by decide) (by decide) rfl (by decide) (lw_can hE hi hL hc hs ok.2.2.2.2.2.2.2.2.1 next)
  · exact j_tabIn 672 d_law_40 (by decide) (by decide) rfl (by decide) (lw_ends hE hi hL hc hs ok.2.2.2.2.2.2.2.2.2.1 next)
  · exact j_tabIn 716 d_law_40 (by decide) (by decide) rfl (by decide) (lw_witness hE hi hL hc hs ok.2.2.2.2.2.2.2.2.2.2.1 next)
  · exact j_tabIn 772 d_law_40 (by decide) (by decide) rfl (by decide) (lw_set hE hi hL hc hs ok.2.2.2.2.2.2.2.2.2.2.2.1 next)
  · exact j_tabIn 820 d_law_40 (by decide) (by decide) rfl (by decide) (lw_take hE hi hL hc hs ok.2.2.2.2.2.2.2.2.2.2.2.2.1 next)
  · exact j_tabIn 844 d_law_40 (by decide) (by decide) rfl (by decide) (lw_run hE hi hL hc hs ok.2.2.2.2.2.2.2.2.2.2.2.2.2.1 next)
  · exact j_tabIn 888 d_law_40 (by decide) (by decide) rfl (by decide) (lw_value hE hi hL hc hs ok.2.2.2.2.2.2.2.2.2.2.2.2.2.2.1 next)
  · exact j_tabIn 944 d_law_40 (by decide) (by decide) rfl (by decide) (lw_count hE hi hL hc hs ok.2.2.2.2.2.2.2.2.2.2.2.2.2.2.2 next)
theorem lw_in {ω : q_W} {σ : q_H} {cs sl j : Nat} {Q : q_R → q_H → Prop} (hi : j + 6 ≤ q_sL ω) (hL : q_sL ω ≤ 3072) (kk : J ω m_law 2048 601024 7293034 cs sl 33 [(4, .int (nI j)), (3, .ref 132), (2, .ref 94), (1, .ref 1), (0, .ref 1000000)] [] σ Q) : J ω m_law 2048 601024 7293034 cs sl 23 [(4, .int (nI j)), (3, .ref 132), (2, .ref 94), (1, .ref 1), (0, .ref 1000000)] [] σ Q := by
  refine j_iload d_law_23 0 rfl ?_
  refine j_aload_n d_law_25 4 rfl ?_
  refine j_scrL d_law_26 ?_
  refine j_bipush (v := 6) d_law_27 (by decide) ?_
  refine j_isub d_law_29 ?_
  refine j_icmp_gt 975 d_law_30 (by decide) (fun h => ?_) (fun _ => kk)
  exfalso
  have e1 : (nI (q_sL ω) - 6).toInt = (q_sL ω : Int) - 6 := pk_sub_toInt (b := 6) (by omega) (by decide)
  rw [Int32.lt_iff_toInt_lt, e1, nI_toInt (by omega)] at h
  omega
theorem lw_out {ω : q_W} {σ : q_H} {cs sl j : Nat} {Q : q_R → q_H → Prop} (hi : q_sL ω < j + 6) (hj : j < 4000) (hL : q_sL ω ≤ 3072) (hc : cs ≤ 601024) (hs : sl ≤ 7293034) (hQ : Q (.inl (some (.int 1))) σ) : J ω m_law 2048 601024 7293034 cs sl 23 [(4, .int (nI j)), (3, .ref 132), (2, .ref 94), (1, .ref 1), (0, .ref 1000000)] [] σ Q := by
  refine j_iload d_law_23 0 rfl ?_
  refine j_aload_n d_law_25 4 rfl ?_
  refine j_scrL d_law_26 ?_
  refine j_bipush (v := 6) d_law_27 (by decide) ?_
  refine j_isub d_law_29 ?_
  refine j_icmp_gt 975 d_law_30 (by decide) (fun _ => ?_) (fun h => ?_)
  rotate_left
  · exfalso
    have e1 : (nI (q_sL ω) - 6).toInt = (q_sL ω : Int) - 6 := pk_sub_toInt (b := 6) (by omega) (by decide)
    rw [Int32.lt_iff_toInt_lt, e1, nI_toInt (by omega)] at h
    omega
  refine j_iconst (v := 1) d_law_975 (by decide) ?_
  exact j_zret d_law_976 rfl (Or.inr rfl) hc hs hQ
theorem lw_next {ω : q_W} {σ : q_H} {cs sl j : Nat} {Q : q_R → q_H → Prop} (kk : J ω m_law 2048 601024 7293034 cs sl 23 [(4, .int (nI (j + 6))), (3, .ref 132), (2, .ref 94), (1, .ref 1), (0, .ref 1000000)] [] σ Q) : J ω m_law 2048 601024 7293034 cs sl 969 [(4, .int (nI j)), (3, .ref 132), (2, .ref 94), (1, .ref 1), (0, .ref 1000000)] [] σ Q := by
  refine j_iinc (v := nI (j + 6)) (L' := [(4, .int (nI (j + 6))), (3, .ref 132), (2, .ref 94), (1, .ref 1), (0, .ref 1000000)]) d_law_969 0 rfl (nI_add j 6) (by decide) rfl ?_
  exact j_goto 23 d_law_972 (by decide) kk
/-- THE LAW'S LOOP, for any invariant I that the sixteen calls keep -/
theorem lw_loop {ω : q_W} {I : q_H → Prop} (hL : q_sL ω ≤ 3072) (hI : ∀ σ, I σ → q_E σ) (ok : ∀ σ j, I σ → q_oks ω I σ j) : ∀ (n j : Nat) (σ : q_H), I σ → q_sL ω < j + 6 + 6 * n → j + 6 * n ≤ q_sL ω + 6 → n ≤ 513 → j < 4000 →
    J ω m_law 2048 601024 7293034 (645 - n) (860000 - 6 * n) 23 [(4, .int (nI j)), (3, .ref 132), (2, .ref 94), (1, .ref 1), (0, .ref 1000000)] [] σ (fun r _ => r = .inl (some (.int 1))) := by
  intro n
  induction n with
  | zero =>
    intro j σ hσ h1 h2 h3 h4
    exact lw_out (by omega) h4 hL (by decide) (by decide) rfl
  | succ n ih =>
    intro j σ hσ h1 h2 h3 h4
    by_cases h : j + 6 ≤ q_sL ω
    · refine lw_in h hL (lw_step (hI σ hσ) h hL (by omega) (by omega) (ok σ j hσ) (fun τ hE hP => lw_next ?_))
      have k := ih (j + 6) τ hP (by omega) (by omega) (by omega) (by omega)
      rw [show 645 - (n + 1) + 1 = 645 - n by omega, show 860000 - 6 * (n + 1) + 6 = 860000 - 6 * n by omega]
      exact k
    · exact lw_out (by omega) h4 hL (by omega) (by omega) rfl
set_option maxHeartbeats 1000000 in
set_option maxRecDepth 100000 in
theorem lw_entry {ω : q_W} {Q : q_R → q_H → Prop} (kk : J ω m_law 2048 601024 7293034 132 855160 23 [(4, .int (nI 0)), (3, .ref 132), (2, .ref 94), (1, .ref 1), (0, .ref 1000000)] [] q_s1 Q) : J ω m_law 2048 601024 7293034 0 0 0 [(0, .ref 1000000)] [] q_s0 Q := by
  refine k_new 1 n_L_8 d_law_0 (by decide) (by decide) rfl (by decide) ?_
  refine j_dup d_law_3 rfl ?_
  refine j_callI m_H_init [] [.ref 1] 10 92 654004 cI_L_67 d_law_4 rfl rfl (by decide) (by decide) (by decide) (by decide) (by decide) (c_H_init_1 _ rfl rfl) (fun v τ h => ?_) (fun x τ h => absurd h.1 (by simp))
  obtain ⟨h1, rfl⟩ := h
  cases h1
  refine j_astore_n (L' := [(1, .ref 1), (0, .ref 1000000)]) d_law_7 (by decide) rfl ?_
  refine k_new 94 n_L_68 d_law_8 (by decide) (by decide) rfl (by decide) ?_
  refine j_dup d_law_11 rfl ?_
  refine j_callI m_M_init [] [.ref 94] 6 37 201078 cI_L_70 d_law_12 rfl rfl (by decide) (by decide) (by decide) (by decide) (by decide) (c_M_init_94 _ rfl rfl) (fun v τ h => ?_) (fun x τ h => absurd h.1 (by simp))
  obtain ⟨h1, rfl⟩ := h
  cases h1
  refine j_astore_n (L' := [(2, .ref 94), (1, .ref 1), (0, .ref 1000000)]) d_law_15 (by decide) rfl ?_
  refine j_iconst (v := nI 1) d_law_16 (by decide) ?_
  refine k_newL 1 132 d_law_17 rfl (by decide) (by decide) (by decide) rfl (by decide) ?_
  refine j_astore_n (L' := [(3, .ref 132), (2, .ref 94), (1, .ref 1), (0, .ref 1000000)]) d_law_19 (by decide) rfl ?_
  refine j_iconst (v := nI 0) d_law_20 (by decide) ?_
  refine j_istore (L' := [(4, .int (nI 0)), (3, .ref 132), (2, .ref 94), (1, .ref 1), (0, .ref 1000000)]) d_law_21 (by decide) rfl ?_
  exact kk
/-- THE LAW, for any invariant I that holds behind the constructors and that the sixteen calls keep -/
theorem lw_all {I : q_H → Prop} (h1 : I q_s1) (hI : ∀ σ, I σ → q_E σ) (ok : ∀ (ω : q_W) σ j, q_sL ω ≤ 3072 → I σ → q_oks ω I σ j) : q_goal := by
  intro ω hL
  refine lw_entry ?_
  by_cases h0 : q_sL ω < 6
  · exact lw_out (by omega) (by decide) hL (by decide) (by decide) rfl
  · refine j_widen (k := 645 - q_sL ω / 6) (n := 860000 - 6 * (q_sL ω / 6)) (by omega) (by omega) ?_
    exact lw_loop hL hI (fun σ j h => ok ω σ j hL h) (q_sL ω / 6) 0 q_s1 h1 (by omega) (by omega) (by omega) (by decide)
