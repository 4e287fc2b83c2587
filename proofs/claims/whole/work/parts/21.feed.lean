theorem d_Sc_append_0 : decode m_Sc_append.2.1 0 = .ok (.bipush 24, 2) := by decide +kernel
theorem d_Sc_append_2 : decode m_Sc_append.2.1 2 = .ok (.istore_n 2, 1) := by decide +kernel
theorem d_Sc_append_3 : decode m_Sc_append.2.1 3 = .ok (.iload_n 2, 1) := by decide +kernel
theorem d_Sc_append_4 : decode m_Sc_append.2.1 4 = .ok (.ifCond .lt 42, 3) := by decide +kernel
theorem d_Sc_append_7 : decode m_Sc_append.2.1 7 = .ok (.aload_n 0, 1) := by decide +kernel
theorem d_Sc_append_8 : decode m_Sc_append.2.1 8 = .ok (.getfield 59, 3) := by decide +kernel
theorem d_Sc_append_11 : decode m_Sc_append.2.1 11 = .ok (.sipush 4096, 3) := by decide +kernel
theorem d_Sc_append_14 : decode m_Sc_append.2.1 14 = .ok (.if_icmp .ge 32, 3) := by decide +kernel
theorem d_Sc_append_17 : decode m_Sc_append.2.1 17 = .ok (.aload_n 0, 1) := by decide +kernel
theorem d_Sc_append_18 : decode m_Sc_append.2.1 18 = .ok (.getfield 9, 3) := by decide +kernel
theorem d_Sc_append_21 : decode m_Sc_append.2.1 21 = .ok (.aload_n 0, 1) := by decide +kernel
theorem d_Sc_append_22 : decode m_Sc_append.2.1 22 = .ok (.getfield 59, 3) := by decide +kernel
theorem d_Sc_append_25 : decode m_Sc_append.2.1 25 = .ok (.iload_n 1, 1) := by decide +kernel
theorem d_Sc_append_26 : decode m_Sc_append.2.1 26 = .ok (.iload_n 2, 1) := by decide +kernel
theorem d_Sc_append_27 : decode m_Sc_append.2.1 27 = .ok (.ishr, 1) := by decide +kernel
theorem d_Sc_append_28 : decode m_Sc_append.2.1 28 = .ok (.i2b, 1) := by decide +kernel
theorem d_Sc_append_29 : decode m_Sc_append.2.1 29 = .ok (.bastore, 1) := by decide +kernel
theorem d_Sc_append_30 : decode m_Sc_append.2.1 30 = .ok (.aload_n 0, 1) := by decide +kernel
theorem d_Sc_append_31 : decode m_Sc_append.2.1 31 = .ok (.dup, 1) := by decide +kernel
theorem d_Sc_append_32 : decode m_Sc_append.2.1 32 = .ok (.getfield 59, 3) := by decide +kernel
theorem d_Sc_append_35 : decode m_Sc_append.2.1 35 = .ok (.iconst 1, 1) := by decide +kernel
theorem d_Sc_append_36 : decode m_Sc_append.2.1 36 = .ok (.iadd, 1) := by decide +kernel
theorem d_Sc_append_37 : decode m_Sc_append.2.1 37 = .ok (.putfield 59, 3) := by decide +kernel
theorem d_Sc_append_40 : decode m_Sc_append.2.1 40 = .ok (.iinc 2 (-8), 3) := by decide +kernel
theorem d_Sc_append_43 : decode m_Sc_append.2.1 43 = .ok (.goto (-40), 3) := by decide +kernel
theorem d_Sc_append_46 : decode m_Sc_append.2.1 46 = .ok (.return_, 1) := by decide +kernel
theorem d_M_byteOf_0 : decode m_M_byteOf.2.1 0 = .ok (.bipush 24, 2) := by decide +kernel
theorem d_M_byteOf_2 : decode m_M_byteOf.2.1 2 = .ok (.istore_n 2, 1) := by decide +kernel
theorem d_M_byteOf_3 : decode m_M_byteOf.2.1 3 = .ok (.iload_n 2, 1) := by decide +kernel
theorem d_M_byteOf_4 : decode m_M_byteOf.2.1 4 = .ok (.ifCond .lt 32, 3) := by decide +kernel
theorem d_M_byteOf_7 : decode m_M_byteOf.2.1 7 = .ok (.aload_n 0, 1) := by decide +kernel
theorem d_M_byteOf_8 : decode m_M_byteOf.2.1 8 = .ok (.getfield 7, 3) := by decide +kernel
theorem d_M_byteOf_11 : decode m_M_byteOf.2.1 11 = .ok (.aload_n 0, 1) := by decide +kernel
theorem d_M_byteOf_12 : decode m_M_byteOf.2.1 12 = .ok (.getfield 144, 3) := by decide +kernel
theorem d_M_byteOf_15 : decode m_M_byteOf.2.1 15 = .ok (.iload_n 1, 1) := by decide +kernel
theorem d_M_byteOf_16 : decode m_M_byteOf.2.1 16 = .ok (.iload_n 2, 1) := by decide +kernel
theorem d_M_byteOf_17 : decode m_M_byteOf.2.1 17 = .ok (.ishr, 1) := by decide +kernel
theorem d_M_byteOf_18 : decode m_M_byteOf.2.1 18 = .ok (.i2b, 1) := by decide +kernel
theorem d_M_byteOf_19 : decode m_M_byteOf.2.1 19 = .ok (.bastore, 1) := by decide +kernel
theorem d_M_byteOf_20 : decode m_M_byteOf.2.1 20 = .ok (.aload_n 0, 1) := by decide +kernel
theorem d_M_byteOf_21 : decode m_M_byteOf.2.1 21 = .ok (.dup, 1) := by decide +kernel
theorem d_M_byteOf_22 : decode m_M_byteOf.2.1 22 = .ok (.getfield 144, 3) := by decide +kernel
theorem d_M_byteOf_25 : decode m_M_byteOf.2.1 25 = .ok (.iconst 1, 1) := by decide +kernel
theorem d_M_byteOf_26 : decode m_M_byteOf.2.1 26 = .ok (.iadd, 1) := by decide +kernel
theorem d_M_byteOf_27 : decode m_M_byteOf.2.1 27 = .ok (.putfield 144, 3) := by decide +kernel
theorem d_M_byteOf_30 : decode m_M_byteOf.2.1 30 = .ok (.iinc 2 (-8), 3) := by decide +kernel
theorem d_M_byteOf_33 : decode m_M_byteOf.2.1 33 = .ok (.goto (-30), 3) := by decide +kernel
theorem d_M_byteOf_36 : decode m_M_byteOf.2.1 36 = .ok (.return_, 1) := by decide +kernel
theorem f_Sc_59 : q_F "ProofHall$Scanner" 59 1 2 "I" := ⟨_, _, _, rfl, by decide, rfl, Or.inl (List.mem_of_getElem? (i := 107) (by decide +kernel))⟩
theorem f_Sc_9 : q_FR "ProofHall$Scanner" 9 1 0 := ⟨"[B", by decide, ⟨_, _, _, rfl, by decide, rfl, Or.inl (List.mem_of_getElem? (i := 104) (by decide +kernel))⟩⟩
theorem g_Sc_59 (nm : String) : q_G "ProofHall$Scanner" 59 1 2 "I" nm := ⟨_, _, _, rfl, by decide, rfl, List.mem_of_getElem? (i := 107) (by decide +kernel), Or.inl rfl⟩
theorem f_M_7 : q_FR "ProofHallModel" 7 12 1 := ⟨"[B", by decide, ⟨_, _, _, rfl, by decide, rfl, Or.inl (List.mem_of_getElem? (i := 1533) (by decide +kernel))⟩⟩
theorem f_M_144 : q_F "ProofHallModel" 144 12 2 "I" := ⟨_, _, _, rfl, by decide, rfl, Or.inl (List.mem_of_getElem? (i := 1534) (by decide +kernel))⟩
theorem g_M_144 (nm : String) : q_G "ProofHallModel" 144 12 2 "I" nm := ⟨_, _, _, rfl, by decide, rfl, List.mem_of_getElem? (i := 1534) (by decide +kernel), Or.inl rfl⟩
/-- one byte of TEXT: class, reference -/
def q_pb (σ : q_H) (l : Nat) (x sh : Int32) : q_H := q_seti (q_seti σ 3 l ((x >>> (sh &&& 31)).toInt8.toInt32).toInt8.toInt32) 2 2 (nI (l + 1))
def q_pm (σ : q_H) (l : Nat) (x sh : Int32) : q_H := q_seti (q_seti σ 95 l ((x >>> (sh &&& 31)).toInt8.toInt32).toInt8.toInt32) 94 2 (nI (l + 1))
def q_pb4 (σ : q_H) (l : Nat) (x : Int32) : q_H := q_pb (q_pb (q_pb (q_pb σ l x 24) (l + 1) x 16) (l + 2) x 8) (l + 3) x 0
def q_pm4 (σ : q_H) (l : Nat) (x : Int32) : q_H := q_pm (q_pm (q_pm (q_pm σ l x 24) (l + 1) x 16) (l + 2) x 8) (l + 3) x 0
theorem q_E_pb4 {σ : q_H} (h : q_E σ) (l : Nat) (x : Int32) : q_E (q_pb4 σ l x) := h
theorem q_E_pm4 {σ : q_H} (h : q_E σ) (l : Nat) (x : Int32) : q_E (q_pm4 σ l x) := h
theorem q_l_pb4 (σ : q_H) (l : Nat) (x : Int32) : q_i (q_pb4 σ l x) 2 2 = nI (l + 4) := rfl
theorem q_l_pm4 (σ : q_H) (l : Nat) (x : Int32) : q_i (q_pm4 σ l x) 94 2 = nI (l + 4) := rfl
set_option maxHeartbeats 1000000 in
theorem c_Sc_append {ω : q_W} {σ : q_H} (hE : q_E σ) {l : Nat} (hl : q_i σ 2 2 = nI l) (h4 : l + 4 ≤ 4096) (x : Int32) : J ω m_Sc_append 0 0 0 0 0 0 [(0, .ref 2), (1, .int x)] [] σ (fun r τ => r = .inl none ∧ τ = q_pb4 σ l x) := by
  refine j_bipush (v := 24) d_Sc_append_0 (by decide) ?_
  refine j_istore_n (L' := [(2, .int 24), (0, .ref 2), (1, .int x)]) d_Sc_append_2 (by decide) rfl ?_
  refine j_iload_n d_Sc_append_3 0 rfl ?_
  refine j_if_lt 46 d_Sc_append_4 (by decide) (fun h => absurd h (by decide)) (fun _ => ?_)
  refine j_aload_n d_Sc_append_7 1 rfl ?_
  refine k_getI ((nI l)) f_Sc_59 d_Sc_append_8 (tg_2 hE) (q_okE hE (by decide)) (hl) ?_
  refine j_sipush (v := 4096) d_Sc_append_11 (by decide) ?_
  refine j_icmp_ge 46 d_Sc_append_14 (by decide) (fun h => absurd h (nI_ge (b := 4096) (by omega) (by decide))) (fun _ => ?_)
  refine j_aload_n d_Sc_append_17 1 rfl ?_
  refine j_getR 3 f_Sc_9 d_Sc_append_18 (tg_2 hE) (q_okE hE (by decide)) (rf_2_0 hE) (by decide) ?_
  refine j_aload_n d_Sc_append_21 1 rfl ?_
  refine k_getI ((nI l)) f_Sc_59 d_Sc_append_22 (tg_2 hE) (q_okE hE (by decide)) (hl) ?_
  refine j_iload_n d_Sc_append_25 2 rfl ?_
  refine j_iload_n d_Sc_append_26 0 rfl ?_
  refine j_ishr d_Sc_append_27 ?_
  refine j_i2b d_Sc_append_28 ?_
  refine j_bast l d_Sc_append_29 (tg_3 hE) (q_okE hE (by decide)) rfl (by omega) (by decide) ?_
  refine j_aload_n d_Sc_append_30 1 rfl ?_
  refine j_dup d_Sc_append_31 rfl ?_
  refine k_getI ((nI l)) f_Sc_59 d_Sc_append_32 (tg_2 hE) (q_okE hE (by decide)) (hl) ?_
  refine j_iconst (v := 1) d_Sc_append_35 (by decide) ?_
  refine j_iadd d_Sc_append_36 ?_
  refine j_topE (v := nI (l + 1)) (nI_1 _) ?_
  refine j_putI (g_Sc_59 _) d_Sc_append_37 (tg_2 hE) (q_okE hE (by decide)) ?_
  refine j_iinc (v := 16) (L' := [(2, .int 16), (0, .ref 2), (1, .int x)]) d_Sc_append_40 0 rfl (by decide) (by decide) rfl ?_
  refine j_goto 3 d_Sc_append_43 (by decide) ?_
  refine j_iload_n d_Sc_append_3 0 rfl ?_
  refine j_if_lt 46 d_Sc_append_4 (by decide) (fun h => absurd h (by decide)) (fun _ => ?_)
  refine j_aload_n d_Sc_append_7 1 rfl ?_
  refine k_getI ((nI (l + 1))) f_Sc_59 d_Sc_append_8 (tg_2 hE) (q_okE hE (by decide)) (rfl) ?_
  refine j_sipush (v := 4096) d_Sc_append_11 (by decide) ?_
  refine j_icmp_ge 46 d_Sc_append_14 (by decide) (fun h => absurd h (nI_ge (b := 4096) (by omega) (by decide))) (fun _ => ?_)
  refine j_aload_n d_Sc_append_17 1 rfl ?_
  refine j_getR 3 f_Sc_9 d_Sc_append_18 (tg_2 hE) (q_okE hE (by decide)) (rf_2_0 hE) (by decide) ?_
  refine j_aload_n d_Sc_append_21 1 rfl ?_
  refine k_getI ((nI (l + 1))) f_Sc_59 d_Sc_append_22 (tg_2 hE) (q_okE hE (by decide)) (rfl) ?_
  refine j_iload_n d_Sc_append_25 2 rfl ?_
  refine j_iload_n d_Sc_append_26 0 rfl ?_
  refine j_ishr d_Sc_append_27 ?_
  refine j_i2b d_Sc_append_28 ?_
  refine j_bast (l + 1) d_Sc_append_29 (tg_3 hE) (q_okE hE (by decide)) rfl (by omega) (by decide) ?_
  refine j_aload_n d_Sc_append_30 1 rfl ?_
  refine j_dup d_Sc_append_31 rfl ?_
  refine k_getI ((nI (l + 1))) f_Sc_59 d_Sc_append_32 (tg_2 hE) (q_okE hE (by decide)) (rfl) ?_
  refine j_iconst (v := 1) d_Sc_append_35 (by decide) ?_
  refine j_iadd d_Sc_append_36 ?_
  refine j_topE (v := nI (l + 2)) (nI_1 _) ?_
  refine j_putI (g_Sc_59 _) d_Sc_append_37 (tg_2 hE) (q_okE hE (by decide)) ?_
  refine j_iinc (v := 8) (L' := [(2, .int 8), (0, .ref 2), (1, .int x)]) d_Sc_append_40 0 rfl (by decide) (by decide) rfl ?_
  refine j_goto 3 d_Sc_append_43 (by decide) ?_
  refine j_iload_n d_Sc_append_3 0 rfl ?_
  refine j_if_lt 46 d_Sc_append_4 (by decide) (fun h => absurd h (by decide)) (fun _ => ?_)
  refine j_aload_n d_Sc_append_7 1 rfl ?_
  refine k_getI ((nI (l + 2))) f_Sc_59 d_Sc_append_8 (tg_2 hE) (q_okE hE (by decide)) (rfl) ?_
  refine j_sipush (v := 4096) d_Sc_append_11 (by decide) ?_
  refine j_icmp_ge 46 d_Sc_append_14 (by decide) (fun h => absurd h (nI_ge (b := 4096) (by omega) (by decide))) (fun _ => ?_)
  refine j_aload_n d_Sc_append_17 1 rfl ?_
  refine j_getR 3 f_Sc_9 d_Sc_append_18 (tg_2 hE) (q_okE hE (by decide)) (rf_2_0 hE) (by decide) ?_
  refine j_aload_n d_Sc_append_21 1 rfl ?_
  refine k_getI ((nI (l + 2))) f_Sc_59 d_Sc_append_22 (tg_2 hE) (q_okE hE (by decide)) (rfl) ?_
  refine j_iload_n d_Sc_append_25 2 rfl ?_
  refine j_iload_n d_Sc_append_26 0 rfl ?_
  refine j_ishr d_Sc_append_27 ?_
  refine j_i2b d_Sc_append_28 ?_
  refine j_bast (l + 2) d_Sc_append_29 (tg_3 hE) (q_okE hE (by decide)) rfl (by omega) (by decide) ?_
  refine j_aload_n d_Sc_append_30 1 rfl ?_
  refine j_dup d_Sc_append_31 rfl ?_
  refine k_getI ((nI (l + 2))) f_Sc_59 d_Sc_append_32 (tg_2 hE) (q_okE hE (by decide)) (rfl) ?_
  refine j_iconst (v := 1) d_Sc_append_35 (by decide) ?_
  refine j_iadd d_Sc_append_36 ?_
  refine j_topE (v := nI (l + 3)) (nI_1 _) ?_
  refine j_putI (g_Sc_59 _) d_Sc_append_37 (tg_2 hE) (q_okE hE (by decide)) ?_
  refine j_iinc (v := 0) (L' := [(2, .int 0), (0, .ref 2), (1, .int x)]) d_Sc_append_40 0 rfl (by decide) (by decide) rfl ?_
  refine j_goto 3 d_Sc_append_43 (by decide) ?_
  refine j_iload_n d_Sc_append_3 0 rfl ?_
  refine j_if_lt 46 d_Sc_append_4 (by decide) (fun h => absurd h (by decide)) (fun _ => ?_)
  refine j_aload_n d_Sc_append_7 1 rfl ?_
  refine k_getI ((nI (l + 3))) f_Sc_59 d_Sc_append_8 (tg_2 hE) (q_okE hE (by decide)) (rfl) ?_
  refine j_sipush (v := 4096) d_Sc_append_11 (by decide) ?_
  refine j_icmp_ge 46 d_Sc_append_14 (by decide) (fun h => absurd h (nI_ge (b := 4096) (by omega) (by decide))) (fun _ => ?_)
  refine j_aload_n d_Sc_append_17 1 rfl ?_
  refine j_getR 3 f_Sc_9 d_Sc_append_18 (tg_2 hE) (q_okE hE (by decide)) (rf_2_0 hE) (by decide) ?_
  refine j_aload_n d_Sc_append_21 1 rfl ?_
  refine k_getI ((nI (l + 3))) f_Sc_59 d_Sc_append_22 (tg_2 hE) (q_okE hE (by decide)) (rfl) ?_
  refine j_iload_n d_Sc_append_25 2 rfl ?_
  refine j_iload_n d_Sc_append_26 0 rfl ?_
  refine j_ishr d_Sc_append_27 ?_
  refine j_i2b d_Sc_append_28 ?_
  refine j_bast (l + 3) d_Sc_append_29 (tg_3 hE) (q_okE hE (by decide)) rfl (by omega) (by decide) ?_
  refine j_aload_n d_Sc_append_30 1 rfl ?_
  refine j_dup d_Sc_append_31 rfl ?_
  refine k_getI ((nI (l + 3))) f_Sc_59 d_Sc_append_32 (tg_2 hE) (q_okE hE (by decide)) (rfl) ?_
  refine j_iconst (v := 1) d_Sc_append_35 (by decide) ?_
  refine j_iadd d_Sc_append_36 ?_
  refine j_topE (v := nI (l + 4)) (nI_1 _) ?_
  refine j_putI (g_Sc_59 _) d_Sc_append_37 (tg_2 hE) (q_okE hE (by decide)) ?_
  refine j_iinc (v := (-8)) (L' := [(2, .int (-8)), (0, .ref 2), (1, .int x)]) d_Sc_append_40 0 rfl (by decide) (by decide) rfl ?_
  refine j_goto 3 d_Sc_append_43 (by decide) ?_
  refine j_iload_n d_Sc_append_3 0 rfl ?_
  refine j_if_lt 46 d_Sc_append_4 (by decide) (fun _ => ?_) (fun h => absurd h (by decide))
  exact j_vret d_Sc_append_46 rfl (by decide) (by decide) ⟨rfl, rfl⟩
set_option maxHeartbeats 1000000 in
theorem c_M_byteOf {ω : q_W} {σ : q_H} (hE : q_E σ) {l : Nat} (hl : q_i σ 94 2 = nI l) (h4 : l + 4 ≤ 4096) (x : Int32) : J ω m_M_byteOf 0 0 0 0 0 0 [(0, .ref 94), (1, .int x)] [] σ (fun r τ => r = .inl none ∧ τ = q_pm4 σ l x) := by
  refine j_bipush (v := 24) d_M_byteOf_0 (by decide) ?_
  refine j_istore_n (L' := [(2, .int 24), (0, .ref 94), (1, .int x)]) d_M_byteOf_2 (by decide) rfl ?_
  refine j_iload_n d_M_byteOf_3 0 rfl ?_
  refine j_if_lt 36 d_M_byteOf_4 (by decide) (fun h => absurd h (by decide)) (fun _ => ?_)
  refine j_aload_n d_M_byteOf_7 1 rfl ?_
  refine j_getR 95 f_M_7 d_M_byteOf_8 (tg_94 hE) (q_okE hE (by decide)) (rf_94_1 hE) (by decide) ?_
  refine j_aload_n d_M_byteOf_11 1 rfl ?_
  refine k_getI ((nI l)) f_M_144 d_M_byteOf_12 (tg_94 hE) (q_okE hE (by decide)) (hl) ?_
  refine j_iload_n d_M_byteOf_15 2 rfl ?_
  refine j_iload_n d_M_byteOf_16 0 rfl ?_
  refine j_ishr d_M_byteOf_17 ?_
  refine j_i2b d_M_byteOf_18 ?_
  refine j_bast l d_M_byteOf_19 (tg_95 hE) (q_okE hE (by decide)) rfl (by omega) (by decide) ?_
  refine j_aload_n d_M_byteOf_20 1 rfl ?_
  refine j_dup d_M_byteOf_21 rfl ?_
  refine k_getI ((nI l)) f_M_144 d_M_byteOf_22 (tg_94 hE) (q_okE hE (by decide)) (hl) ?_
  refine j_iconst (v := 1) d_M_byteOf_25 (by decide) ?_
  refine j_iadd d_M_byteOf_26 ?_
  refine j_topE (v := nI (l + 1)) (nI_1 _) ?_
  refine j_putI (g_M_144 _) d_M_byteOf_27 (tg_94 hE) (q_okE hE (by decide)) ?_
  refine j_iinc (v := 16) (L' := [(2, .int 16), (0, .ref 94), (1, .int x)]) d_M_byteOf_30 0 rfl (by decide) (by decide) rfl ?_
  refine j_goto 3 d_M_byteOf_33 (by decide) ?_
  refine j_iload_n d_M_byteOf_3 0 rfl ?_
  refine j_if_lt 36 d_M_byteOf_4 (by decide) (fun h => absurd h (by decide)) (fun _ => ?_)
  refine j_aload_n d_M_byteOf_7 1 rfl ?_
  refine j_getR 95 f_M_7 d_M_byteOf_8 (tg_94 hE) (q_okE hE (by decide)) (rf_94_1 hE) (by decide) ?_
  refine j_aload_n d_M_byteOf_11 1 rfl ?_
  refine k_getI ((nI (l + 1))) f_M_144 d_M_byteOf_12 (tg_94 hE) (q_okE hE (by decide)) (rfl) ?_
  refine j_iload_n d_M_byteOf_15 2 rfl ?_
  refine j_iload_n d_M_byteOf_16 0 rfl ?_
  refine j_ishr d_M_byteOf_17 ?_
  refine j_i2b d_M_byteOf_18 ?_
  refine j_bast (l + 1) d_M_byteOf_19 (tg_95 hE) (q_okE hE (by decide)) rfl (by omega) (by decide) ?_
  refine j_aload_n d_M_byteOf_20 1 rfl ?_
  refine j_dup d_M_byteOf_21 rfl ?_
  refine k_getI ((nI (l + 1))) f_M_144 d_M_byteOf_22 (tg_94 hE) (q_okE hE (by decide)) (rfl) ?_
  refine j_iconst (v := 1) d_M_byteOf_25 (by decide) ?_
  refine j_iadd d_M_byteOf_26 ?_
  refine j_topE (v := nI (l + 2)) (nI_1 _) ?_
  refine j_putI (g_M_144 _) d_M_byteOf_27 (tg_94 hE) (q_okE hE (by decide)) ?_
  refine j_iinc (v := 8) (L' := [(2, .int 8), (0, .ref 94), (1, .int x)]) d_M_byteOf_30 0 rfl (by decide) (by decide) rfl ?_
  refine j_goto 3 d_M_byteOf_33 (by decide) ?_
  refine j_iload_n d_M_byteOf_3 0 rfl ?_
  refine j_if_lt 36 d_M_byteOf_4 (by decide) (fun h => absurd h (by decide)) (fun _ => ?_)
  refine j_aload_n d_M_byteOf_7 1 rfl ?_
  refine j_getR 95 f_M_7 d_M_byteOf_8 (tg_94 hE) (q_okE hE (by decide)) (rf_94_1 hE) (by decide) ?_
  refine j_aload_n d_M_byteOf_11 1 rfl ?_
  refine k_getI ((nI (l + 2))) f_M_144 d_M_byteOf_12 (tg_94 hE) (q_okE hE (by decide)) (rfl) ?_
  refine j_iload_n d_M_byteOf_15 2 rfl ?_
  refine j_iload_n d_M_byteOf_16 0 rfl ?_
  refine j_ishr d_M_byteOf_17 ?_
  refine j_i2b d_M_byteOf_18 ?_
  refine j_bast (l + 2) d_M_byteOf_19 (tg_95 hE) (q_okE hE (by decide)) rfl (by omega) (by decide) ?_
  refine j_aload_n d_M_byteOf_20 1 rfl ?_
  refine j_dup d_M_byteOf_21 rfl ?_
  refine k_getI ((nI (l + 2))) f_M_144 d_M_byteOf_22 (tg_94 hE) (q_okE hE (by decide)) (rfl) ?_
  refine j_iconst (v := 1) d_M_byteOf_25 (by decide) ?_
  refine j_iadd d_M_byteOf_26 ?_
  refine j_topE (v := nI (l + 3)) (nI_1 _) ?_
  refine j_putI (g_M_144 _) d_M_byteOf_27 (tg_94 hE) (q_okE hE (by decide)) ?_
  refine j_iinc (v := 0) (L' := [(2, .int 0), (0, .ref 94), (1, .int x)]) d_M_byteOf_30 0 rfl (by decide) (by decide) rfl ?_
  refine j_goto 3 d_M_byteOf_33 (by decide) ?_
  refine j_iload_n d_M_byteOf_3 0 rfl ?_
  refine j_if_lt 36 d_M_byteOf_4 (by decide) (fun h => absurd h (by decide)) (fun _ => ?_)
  refine j_aload_n d_M_byteOf_7 1 rfl ?_
  refine j_getR 95 f_M_7 d_M_byteOf_8 (tg_94 hE) (q_okE hE (by decide)) (rf_94_1 hE) (by decide) ?_
  refine j_aload_n d_M_byteOf_11 1 rfl ?_
  refine k_getI ((nI (l + 3))) f_M_144 d_M_byteOf_12 (tg_94 hE) (q_okE hE (by decide)) (rfl) ?_
  refine j_iload_n d_M_byteOf_15 2 rfl ?_
  refine j_iload_n d_M_byteOf_16 0 rfl ?_
  refine j_ishr d_M_byteOf_17 ?_
  refine j_i2b d_M_byteOf_18 ?_
  refine j_bast (l + 3) d_M_byteOf_19 (tg_95 hE) (q_okE hE (by decide)) rfl (by omega) (by decide) ?_
  refine j_aload_n d_M_byteOf_20 1 rfl ?_
  refine j_dup d_M_byteOf_21 rfl ?_
  refine k_getI ((nI (l + 3))) f_M_144 d_M_byteOf_22 (tg_94 hE) (q_okE hE (by decide)) (rfl) ?_
  refine j_iconst (v := 1) d_M_byteOf_25 (by decide) ?_
  refine j_iadd d_M_byteOf_26 ?_
  refine j_topE (v := nI (l + 4)) (nI_1 _) ?_
  refine j_putI (g_M_144 _) d_M_byteOf_27 (tg_94 hE) (q_okE hE (by decide)) ?_
  refine j_iinc (v := (-8)) (L' := [(2, .int (-8)), (0, .ref 94), (1, .int x)]) d_M_byteOf_30 0 rfl (by decide) (by decide) rfl ?_
  refine j_goto 3 d_M_byteOf_33 (by decide) ?_
  refine j_iload_n d_M_byteOf_3 0 rfl ?_
  refine j_if_lt 36 d_M_byteOf_4 (by decide) (fun _ => ?_) (fun h => absurd h (by decide))
  exact j_vret d_M_byteOf_36 rfl (by decide) (by decide) ⟨rfl, rfl⟩
