section SubJ
variable {ω : q_W} {μ : q_M} {d mc ms cs sl pc : Nat} {L : List (Nat × Value)} {st : List Value} {σ : q_H} {Q : q_R → q_H → Prop}
theorem j_pick {L' : List (Nat × Value)} (ks : List Nat) (h : lv_pick L ks = L') (kk : J ω μ d mc ms cs sl pc L' st σ Q) : J ω μ d mc ms cs sl pc L st σ Q := by
  intro p l e R s m args below meth c H locs ls C hr hl hf
  refine kk p l e R s m args below meth c H locs ls C hr ⟨hl.1, hl.2.1, fun q hq => hl.2.2 q ?_⟩ hf
  obtain ⟨q', hq', rfl⟩ := List.mem_map.mp hq
  rw [← h] at hq'
  obtain ⟨k, -, hk⟩ := List.mem_filterMap.mp hq'
  exact List.mem_map.mpr ⟨q', List.mem_of_getElem? hk, rfl⟩
end SubJ
/-- what 'packed' makes of the first k letters -/
def pkF (lst : List Int32) : Nat → Int64
  | 0 => 0
  | k + 1 => pkF lst k * 32 + ((lst.getD k 0 &&& 255) - 97 + 1).toInt64
theorem d_Sc_packed_0 : decode m_Sc_packed.2.1 0 = .ok (.lconst 0, 1) := by decide +kernel
theorem d_Sc_packed_1 : decode m_Sc_packed.2.1 1 = .ok (.lstore_n 1, 1) := by decide +kernel
theorem d_Sc_packed_2 : decode m_Sc_packed.2.1 2 = .ok (.iconst 0, 1) := by decide +kernel
theorem d_Sc_packed_3 : decode m_Sc_packed.2.1 3 = .ok (.istore_n 3, 1) := by decide +kernel
theorem d_Sc_packed_4 : decode m_Sc_packed.2.1 4 = .ok (.iload_n 3, 1) := by decide +kernel
theorem d_Sc_packed_5 : decode m_Sc_packed.2.1 5 = .ok (.aload_n 0, 1) := by decide +kernel
theorem d_Sc_packed_6 : decode m_Sc_packed.2.1 6 = .ok (.invokevirtual 47, 3) := by decide +kernel
theorem d_Sc_packed_9 : decode m_Sc_packed.2.1 9 = .ok (.if_icmp .ge 27, 3) := by decide +kernel
theorem d_Sc_packed_12 : decode m_Sc_packed.2.1 12 = .ok (.lload_n 1, 1) := by decide +kernel
theorem d_Sc_packed_13 : decode m_Sc_packed.2.1 13 = .ok (.ldc2_w 53, 3) := by decide +kernel
theorem d_Sc_packed_16 : decode m_Sc_packed.2.1 16 = .ok (.lmul, 1) := by decide +kernel
theorem d_Sc_packed_17 : decode m_Sc_packed.2.1 17 = .ok (.aload_n 0, 1) := by decide +kernel
theorem d_Sc_packed_18 : decode m_Sc_packed.2.1 18 = .ok (.iload_n 3, 1) := by decide +kernel
theorem d_Sc_packed_19 : decode m_Sc_packed.2.1 19 = .ok (.invokevirtual 55, 3) := by decide +kernel
theorem d_Sc_packed_22 : decode m_Sc_packed.2.1 22 = .ok (.bipush 97, 2) := by decide +kernel
theorem d_Sc_packed_24 : decode m_Sc_packed.2.1 24 = .ok (.isub, 1) := by decide +kernel
theorem d_Sc_packed_25 : decode m_Sc_packed.2.1 25 = .ok (.iconst 1, 1) := by decide +kernel
theorem d_Sc_packed_26 : decode m_Sc_packed.2.1 26 = .ok (.iadd, 1) := by decide +kernel
theorem d_Sc_packed_27 : decode m_Sc_packed.2.1 27 = .ok (.i2l, 1) := by decide +kernel
theorem d_Sc_packed_28 : decode m_Sc_packed.2.1 28 = .ok (.ladd, 1) := by decide +kernel
theorem d_Sc_packed_29 : decode m_Sc_packed.2.1 29 = .ok (.lstore_n 1, 1) := by decide +kernel
theorem d_Sc_packed_30 : decode m_Sc_packed.2.1 30 = .ok (.iinc 3 1, 3) := by decide +kernel
theorem d_Sc_packed_33 : decode m_Sc_packed.2.1 33 = .ok (.goto (-29), 3) := by decide +kernel
theorem d_Sc_packed_36 : decode m_Sc_packed.2.1 36 = .ok (.lload_n 1, 1) := by decide +kernel
theorem d_Sc_packed_37 : decode m_Sc_packed.2.1 37 = .ok (.lreturn, 1) := by decide +kernel
theorem d_Sc_init_0 : decode m_Sc_init.2.1 0 = .ok (.aload_n 0, 1) := by decide +kernel
theorem d_Sc_init_1 : decode m_Sc_init.2.1 1 = .ok (.invokespecial 3, 3) := by decide +kernel
theorem d_Sc_init_4 : decode m_Sc_init.2.1 4 = .ok (.aload_n 0, 1) := by decide +kernel
theorem d_Sc_init_5 : decode m_Sc_init.2.1 5 = .ok (.sipush 4096, 3) := by decide +kernel
theorem d_Sc_init_8 : decode m_Sc_init.2.1 8 = .ok (.newarray .byte, 2) := by decide +kernel
theorem d_Sc_init_10 : decode m_Sc_init.2.1 10 = .ok (.putfield 9, 3) := by decide +kernel
theorem d_Sc_init_13 : decode m_Sc_init.2.1 13 = .ok (.aload_n 0, 1) := by decide +kernel
theorem d_Sc_init_14 : decode m_Sc_init.2.1 14 = .ok (.sipush 4097, 3) := by decide +kernel
theorem d_Sc_init_17 : decode m_Sc_init.2.1 17 = .ok (.newarray .int, 2) := by decide +kernel
theorem d_Sc_init_19 : decode m_Sc_init.2.1 19 = .ok (.putfield 15, 3) := by decide +kernel
theorem d_Sc_init_22 : decode m_Sc_init.2.1 22 = .ok (.aload_n 0, 1) := by decide +kernel
theorem d_Sc_init_23 : decode m_Sc_init.2.1 23 = .ok (.sipush 4097, 3) := by decide +kernel
theorem d_Sc_init_26 : decode m_Sc_init.2.1 26 = .ok (.newarray .int, 2) := by decide +kernel
theorem d_Sc_init_28 : decode m_Sc_init.2.1 28 = .ok (.putfield 19, 3) := by decide +kernel
theorem d_Sc_init_31 : decode m_Sc_init.2.1 31 = .ok (.aload_n 0, 1) := by decide +kernel
theorem d_Sc_init_32 : decode m_Sc_init.2.1 32 = .ok (.sipush 4097, 3) := by decide +kernel
theorem d_Sc_init_35 : decode m_Sc_init.2.1 35 = .ok (.newarray .long, 2) := by decide +kernel
theorem d_Sc_init_37 : decode m_Sc_init.2.1 37 = .ok (.putfield 22, 3) := by decide +kernel
theorem d_Sc_init_40 : decode m_Sc_init.2.1 40 = .ok (.aload_n 0, 1) := by decide +kernel
theorem d_Sc_init_41 : decode m_Sc_init.2.1 41 = .ok (.bipush 7, 2) := by decide +kernel
theorem d_Sc_init_43 : decode m_Sc_init.2.1 43 = .ok (.newarray .long, 2) := by decide +kernel
theorem d_Sc_init_45 : decode m_Sc_init.2.1 45 = .ok (.dup, 1) := by decide +kernel
theorem d_Sc_init_46 : decode m_Sc_init.2.1 46 = .ok (.iconst 0, 1) := by decide +kernel
theorem d_Sc_init_47 : decode m_Sc_init.2.1 47 = .ok (.ldc 26, 2) := by decide +kernel
theorem d_Sc_init_49 : decode m_Sc_init.2.1 49 = .ok (.invokestatic 28, 3) := by decide +kernel
theorem d_Sc_init_52 : decode m_Sc_init.2.1 52 = .ok (.lastore, 1) := by decide +kernel
theorem d_Sc_init_53 : decode m_Sc_init.2.1 53 = .ok (.dup, 1) := by decide +kernel
theorem d_Sc_init_54 : decode m_Sc_init.2.1 54 = .ok (.iconst 1, 1) := by decide +kernel
theorem d_Sc_init_55 : decode m_Sc_init.2.1 55 = .ok (.ldc 32, 2) := by decide +kernel
theorem d_Sc_init_57 : decode m_Sc_init.2.1 57 = .ok (.invokestatic 28, 3) := by decide +kernel
theorem d_Sc_init_60 : decode m_Sc_init.2.1 60 = .ok (.lastore, 1) := by decide +kernel
theorem d_Sc_init_61 : decode m_Sc_init.2.1 61 = .ok (.dup, 1) := by decide +kernel
theorem d_Sc_init_62 : decode m_Sc_init.2.1 62 = .ok (.iconst 2, 1) := by decide +kernel
theorem d_Sc_init_63 : decode m_Sc_init.2.1 63 = .ok (.ldc 34, 2) := by decide +kernel
theorem d_Sc_init_65 : decode m_Sc_init.2.1 65 = .ok (.invokestatic 28, 3) := by decide +kernel
theorem d_Sc_init_68 : decode m_Sc_init.2.1 68 = .ok (.lastore, 1) := by decide +kernel
theorem d_Sc_init_69 : decode m_Sc_init.2.1 69 = .ok (.dup, 1) := by decide +kernel
theorem d_Sc_init_70 : decode m_Sc_init.2.1 70 = .ok (.iconst 3, 1) := by decide +kernel
theorem d_Sc_init_71 : decode m_Sc_init.2.1 71 = .ok (.ldc 36, 2) := by decide +kernel
theorem d_Sc_init_73 : decode m_Sc_init.2.1 73 = .ok (.invokestatic 28, 3) := by decide +kernel
theorem d_Sc_init_76 : decode m_Sc_init.2.1 76 = .ok (.lastore, 1) := by decide +kernel
theorem d_Sc_init_77 : decode m_Sc_init.2.1 77 = .ok (.dup, 1) := by decide +kernel
theorem d_Sc_init_78 : decode m_Sc_init.2.1 78 = .ok (.iconst 4, 1) := by decide +kernel
theorem d_Sc_init_79 : decode m_Sc_init.2.1 79 = .ok (.ldc 38, 2) := by decide +kernel
theorem d_Sc_init_81 : decode m_Sc_init.2.1 81 = .ok (.invokestatic 28, 3) := by decide +kernel
theorem d_Sc_init_84 : decode m_Sc_init.2.1 84 = .ok (.lastore, 1) := by decide +kernel
theorem d_Sc_init_85 : decode m_Sc_init.2.1 85 = .ok (.dup, 1) := by decide +kernel
theorem d_Sc_init_86 : decode m_Sc_init.2.1 86 = .ok (.iconst 5, 1) := by decide +kernel
theorem d_Sc_init_87 : decode m_Sc_init.2.1 87 = .ok (.ldc 40, 2) := by decide +kernel
theorem d_Sc_init_89 : decode m_Sc_init.2.1 89 = .ok (.invokestatic 28, 3) := by decide +kernel
theorem d_Sc_init_92 : decode m_Sc_init.2.1 92 = .ok (.lastore, 1) := by decide +kernel
theorem d_Sc_init_93 : decode m_Sc_init.2.1 93 = .ok (.dup, 1) := by decide +kernel
theorem d_Sc_init_94 : decode m_Sc_init.2.1 94 = .ok (.bipush 6, 2) := by decide +kernel
theorem d_Sc_init_96 : decode m_Sc_init.2.1 96 = .ok (.ldc 42, 2) := by decide +kernel
theorem d_Sc_init_98 : decode m_Sc_init.2.1 98 = .ok (.invokestatic 28, 3) := by decide +kernel
theorem d_Sc_init_101 : decode m_Sc_init.2.1 101 = .ok (.lastore, 1) := by decide +kernel
theorem d_Sc_init_102 : decode m_Sc_init.2.1 102 = .ok (.putfield 44, 3) := by decide +kernel
theorem d_Sc_init_105 : decode m_Sc_init.2.1 105 = .ok (.return_, 1) := by decide +kernel
theorem cd_JS_length : q_cd m_JS_length := ⟨by decide +kernel, List.mem_of_getElem? (i := 3) (by decide +kernel), Or.inl ⟨rfl, List.mem_of_getElem? (i := 52) (by decide +kernel)⟩⟩
theorem cvs_Sc_47 : q_CVS "ProofHall$Scanner" 47 m_JS_length 0 := ⟨⟨cd_JS_length, by decide, by decide, by decide, by decide +kernel⟩, Or.inl (List.mem_of_getElem? (i := 49) (by decide +kernel)), List.mem_of_getElem? (i := 50) (by decide +kernel), List.mem_append_right _ (List.mem_of_getElem? (i := 51) (by decide +kernel))⟩
theorem cd_JS_charAt : q_cd m_JS_charAt := ⟨by decide +kernel, List.mem_of_getElem? (i := 3) (by decide +kernel), Or.inl ⟨rfl, List.mem_of_getElem? (i := 63) (by decide +kernel)⟩⟩
theorem cvs_Sc_55 : q_CVS "ProofHall$Scanner" 55 m_JS_charAt 1 := ⟨⟨cd_JS_charAt, by decide, by decide, by decide, by decide +kernel⟩, Or.inl (List.mem_of_getElem? (i := 60) (by decide +kernel)), List.mem_of_getElem? (i := 61) (by decide +kernel), List.mem_append_right _ (List.mem_of_getElem? (i := 62) (by decide +kernel))⟩
theorem oi_Sc_3 : q_OI "ProofHall$Scanner" 3 := List.mem_of_getElem? (i := 44) (by decide +kernel)
theorem g_Sc_9_i : q_GR "ProofHall$Scanner" 9 1 0 "<init>" := ⟨"[B", by decide, ⟨_, _, _, rfl, by decide, rfl, List.mem_of_getElem? (i := 104) (by decide +kernel), Or.inr ⟨rfl, rfl, rfl⟩⟩⟩
theorem g_Sc_15_i : q_GR "ProofHall$Scanner" 15 1 5 "<init>" := ⟨"[I", by decide, ⟨_, _, _, rfl, by decide, rfl, List.mem_of_getElem? (i := 111) (by decide +kernel), Or.inr ⟨rfl, rfl, rfl⟩⟩⟩
theorem g_Sc_19_i : q_GR "ProofHall$Scanner" 19 1 6 "<init>" := ⟨"[I", by decide, ⟨_, _, _, rfl, by decide, rfl, List.mem_of_getElem? (i := 112) (by decide +kernel), Or.inr ⟨rfl, rfl, rfl⟩⟩⟩
theorem g_Sc_22_i : q_GR "ProofHall$Scanner" 22 1 7 "<init>" := ⟨"[J", by decide, ⟨_, _, _, rfl, by decide, rfl, List.mem_of_getElem? (i := 113) (by decide +kernel), Or.inr ⟨rfl, rfl, rfl⟩⟩⟩
theorem cd_Sc_packed : q_cd m_Sc_packed := ⟨by decide +kernel, List.mem_of_getElem? (i := 2) (by decide +kernel), Or.inl ⟨rfl, List.mem_of_getElem? (i := 48) (by decide +kernel)⟩⟩
theorem cS_Sc_28 : q_CS "ProofHall$Scanner" 28 m_Sc_packed 1 := ⟨⟨cd_Sc_packed, by decide, by decide, by decide, by decide +kernel⟩, Or.inl (List.mem_of_getElem? (i := 46) (by decide +kernel)), List.mem_of_getElem? (i := 47) (by decide +kernel)⟩
theorem g_Sc_44_i : q_GR "ProofHall$Scanner" 44 1 1 "<init>" := ⟨"[J", by decide, ⟨_, _, _, rfl, by decide, rfl, List.mem_of_getElem? (i := 105) (by decide +kernel), Or.inr ⟨rfl, rfl, rfl⟩⟩⟩
set_option maxHeartbeats 1000000 in
theorem l_Sc_packed {ω : q_W} {σ : q_H} {i : Nat} {tx : String × Nat × String} (hi : q_strs[i]? = some tx) {lst : List Int32} (hm : (1000100 + i, FieldType.byte, lst) ∈ q_olds) (hlen : lst.length < 65536) : ∀ n k, k + n = lst.length → J ω m_Sc_packed 4 0 0 0 0 4 [(3, .int (nI k)), (1, .long (pkF lst k)), (0, .ref (1000010 + i))] [] σ (fun r τ => r = .inl (some (.long (pkF lst lst.length))) ∧ τ = σ) := by
  intro n
  induction n with
  | zero =>
    intro k hk
    refine j_iload_n d_Sc_packed_4 0 rfl ?_
    refine j_aload_n d_Sc_packed_5 2 rfl ?_
    refine j_callVS m_JS_length [] [.int (nI k)] 1 0 0 cvs_Sc_47 d_Sc_packed_6 rfl rfl hi (Nat.le_of_ble_eq_true rfl) (Nat.le_of_ble_eq_true rfl) (Nat.le_of_ble_eq_true rfl) (Nat.le_of_ble_eq_true rfl) (Nat.le_of_ble_eq_true rfl) (c_JS_length hi hm hlen) (fun v τ h => ?_) (fun x τ h => absurd h.1 (by simp))
    obtain ⟨h1, rfl⟩ := h
    cases h1
    refine j_icmp_ge 36 d_Sc_packed_9 (by decide) (fun _ => ?_) (fun h => absurd (nI_le (by omega) (by omega)) h)
    refine j_lload_n d_Sc_packed_36 1 rfl ?_
    exact j_lret d_Sc_packed_37 rfl (by decide) (by decide) ⟨by rw [show k = lst.length by omega], rfl⟩
  | succ n ih =>
    intro k hkn
    have hk : k < lst.length := by omega
    refine j_iload_n d_Sc_packed_4 0 rfl ?_
    refine j_aload_n d_Sc_packed_5 2 rfl ?_
    refine j_callVS m_JS_length [] [.int (nI k)] 1 0 0 cvs_Sc_47 d_Sc_packed_6 rfl rfl hi (Nat.le_of_ble_eq_true rfl) (Nat.le_of_ble_eq_true rfl) (Nat.le_of_ble_eq_true rfl) (Nat.le_of_ble_eq_true rfl) (Nat.le_of_ble_eq_true rfl) (c_JS_length hi hm hlen) (fun v τ h => ?_) (fun x τ h => absurd h.1 (by simp))
    obtain ⟨h1, rfl⟩ := h
    cases h1
    refine j_icmp_ge 36 d_Sc_packed_9 (by decide) (fun h => absurd h (nI_ge hk (by omega))) (fun _ => ?_)
    refine j_lload_n d_Sc_packed_12 1 rfl ?_
    refine j_ldc2 (v := 32) (List.mem_of_getElem? (i := 59) (by decide +kernel)) d_Sc_packed_13 ?_
    refine j_lmul d_Sc_packed_16 ?_
    refine j_aload_n d_Sc_packed_17 2 rfl ?_
    refine j_iload_n d_Sc_packed_18 0 rfl ?_
    refine j_callVS m_JS_charAt [.int (nI k)] [.long (pkF lst k * 32)] 3 0 0 cvs_Sc_55 d_Sc_packed_19 rfl rfl hi (Nat.le_of_ble_eq_true rfl) (Nat.le_of_ble_eq_true rfl) (Nat.le_of_ble_eq_true rfl) (Nat.le_of_ble_eq_true rfl) (Nat.le_of_ble_eq_true rfl) (c_JS_charAt hi hm hlen hk) (fun v τ h => ?_) (fun x τ h => absurd h.1 (by simp))
    obtain ⟨h1, rfl⟩ := h
    cases h1
    refine j_bipush (v := 97) d_Sc_packed_22 (by decide) ?_
    refine j_isub d_Sc_packed_24 ?_
    refine j_iconst (v := 1) d_Sc_packed_25 (by decide) ?_
    refine j_iadd d_Sc_packed_26 ?_
    refine j_i2l d_Sc_packed_27 ?_
    refine j_ladd d_Sc_packed_28 ?_
    refine j_lstore_n (L' := [(1, .long (pkF lst (k + 1))), (3, .int (nI k)), (0, .ref (1000010 + i))]) d_Sc_packed_29 (by decide) rfl ?_
    refine j_iinc (v := nI (k + 1)) (L' := [(3, .int (nI (k + 1))), (1, .long (pkF lst (k + 1))), (0, .ref (1000010 + i))]) d_Sc_packed_30 1 rfl (nI_succ k).symm (by decide) rfl ?_
    refine j_goto 4 d_Sc_packed_33 (by decide) ?_
    exact ih (k + 1) (by omega)
set_option maxHeartbeats 1000000 in
theorem c_Sc_packed {ω : q_W} {σ : q_H} {i : Nat} {tx : String × Nat × String} (hi : q_strs[i]? = some tx) {lst : List Int32} (hm : (1000100 + i, FieldType.byte, lst) ∈ q_olds) (hlen : lst.length < 65536) : J ω m_Sc_packed 4 0 0 0 0 0 [(0, .ref (1000010 + i))] [] σ (fun r τ => r = .inl (some (.long (pkF lst lst.length))) ∧ τ = σ) := by
  refine j_lconst (v := 0) d_Sc_packed_0 (by decide) ?_
  refine j_lstore_n (L' := [(1, .long 0), (0, .ref (1000010 + i))]) d_Sc_packed_1 (by decide) rfl ?_
  refine j_iconst (v := 0) d_Sc_packed_2 (by decide) ?_
  refine j_istore_n (L' := [(3, .int 0), (1, .long 0), (0, .ref (1000010 + i))]) d_Sc_packed_3 (by decide) rfl ?_
  exact l_Sc_packed hi hm hlen lst.length 0 (by omega)
def s_Sc_init_2 (σ : q_H) : q_H := (q_setr (q_setl (q_setl (q_setl (q_setl (q_setl (q_setl (q_setl (q_addAt (q_setr (q_addAt (q_setr (q_addAt (q_setr (q_addAt (q_setr (q_addAt σ 3 (3, 4096)) 2 0 3) 4 (2, 4097)) 2 5 4) 5 (2, 4097)) 2 6 5) 6 (4, 4097)) 2 7 6) 7 (4, 7)) 7 0 (pkF [105, 110, 112, 117, 116] 5)) 7 1 (pkF [118, 97, 114] 3)) 7 2 (pkF [105, 102] 2)) 7 3 (pkF [101, 108, 115, 101] 4)) 7 4 (pkF [119, 104, 105, 108, 101] 5)) 7 5 (pkF [97, 115, 115, 101, 114, 116] 6)) 7 6 (pkF [97, 115, 115, 117, 109, 101] 6)) 2 1 7)
set_option maxHeartbeats 4000000 in
set_option maxRecDepth 100000 in
theorem c_Sc_init_2 {ω : q_W} (σ : q_H) (hn : q_n σ = 2) (ht : q_t σ 2 = (1, 1)) : J ω m_Sc_init 9 5 16394 0 0 0 [(0, .ref 2)] [] σ (fun r τ => r = .inl none ∧ τ = s_Sc_init_2 σ) := by
  refine j_aload_n d_Sc_init_0 0 rfl ?_
  refine j_objInit oi_Sc_3 d_Sc_init_1 (by decide) (by decide) ?_
  refine j_aload_n d_Sc_init_4 0 rfl ?_
  refine j_sipush (v := nI 4096) d_Sc_init_5 (by decide) ?_
  refine k_newB 4096 3 d_Sc_init_8 rfl (by decide) (by decide) (by decide) (show q_n σ + 1 = 3 by rw [hn]) (by decide) ?_
  refine j_putR g_Sc_9_i d_Sc_init_10 ht (q_okW (N := 3) (Nat.le_of_ble_eq_true rfl) (by decide)) (by decide) ?_
  refine j_aload_n d_Sc_init_13 0 rfl ?_
  refine j_sipush (v := nI 4097) d_Sc_init_14 (by decide) ?_
  refine k_newI 4097 4 d_Sc_init_17 rfl (by decide) (by decide) (by decide) rfl (by decide) ?_
  refine j_putR g_Sc_15_i d_Sc_init_19 ht (q_okW (N := 4) (Nat.le_of_ble_eq_true rfl) (by decide)) (by decide) ?_
  refine j_aload_n d_Sc_init_22 0 rfl ?_
  refine j_sipush (v := nI 4097) d_Sc_init_23 (by decide) ?_
  refine k_newI 4097 5 d_Sc_init_26 rfl (by decide) (by decide) (by decide) rfl (by decide) ?_
  refine j_putR g_Sc_19_i d_Sc_init_28 ht (q_okW (N := 5) (Nat.le_of_ble_eq_true rfl) (by decide)) (by decide) ?_
  refine j_aload_n d_Sc_init_31 0 rfl ?_
  refine j_sipush (v := nI 4097) d_Sc_init_32 (by decide) ?_
  refine k_newL 4097 6 d_Sc_init_35 rfl (by decide) (by decide) (by decide) rfl (by decide) ?_
  refine j_putR g_Sc_22_i d_Sc_init_37 ht (q_okW (N := 6) (Nat.le_of_ble_eq_true rfl) (by decide)) (by decide) ?_
  refine j_aload_n d_Sc_init_40 0 rfl ?_
  refine j_bipush (v := nI 7) d_Sc_init_41 (by decide) ?_
  refine k_newL 7 7 d_Sc_init_43 rfl (by decide) (by decide) (by decide) rfl (by decide) ?_
  refine j_dup d_Sc_init_45 rfl ?_
  refine j_iconst (v := nI 0) d_Sc_init_46 (by decide) ?_
  refine j_ldcS 0 rfl d_Sc_init_47 ?_
  refine j_callS m_Sc_packed [.ref (1000010 + 0)] [.int (nI 0), .ref 7, .ref 7, .ref 2] 4 0 0 cS_Sc_28 d_Sc_init_49 rfl rfl (Nat.le_of_ble_eq_true rfl) (Nat.le_of_ble_eq_true rfl) (Nat.le_of_ble_eq_true rfl) (Nat.le_of_ble_eq_true rfl) (Nat.le_of_ble_eq_true rfl) (c_Sc_packed (i := 0) (lst := [105, 110, 112, 117, 116]) rfl (by simp [q_olds]) (by decide)) (fun v τ h => ?_) (fun x τ h => absurd h.1 (by simp))
  obtain ⟨h1, rfl⟩ := h
  cases h1
  refine j_last 0 d_Sc_init_52 rfl (q_okW (N := 7) (Nat.le_of_ble_eq_true rfl) (by decide)) rfl (by decide) (by decide) ?_
  refine j_dup d_Sc_init_53 rfl ?_
  refine j_iconst (v := nI 1) d_Sc_init_54 (by decide) ?_
  refine j_ldcS 1 rfl d_Sc_init_55 ?_
  refine j_callS m_Sc_packed [.ref (1000010 + 1)] [.int (nI 1), .ref 7, .ref 7, .ref 2] 4 0 0 cS_Sc_28 d_Sc_init_57 rfl rfl (Nat.le_of_ble_eq_true rfl) (Nat.le_of_ble_eq_true rfl) (Nat.le_of_ble_eq_true rfl) (Nat.le_of_ble_eq_true rfl) (Nat.le_of_ble_eq_true rfl) (c_Sc_packed (i := 1) (lst := [118, 97, 114]) rfl (by simp [q_olds]) (by decide)) (fun v τ h => ?_) (fun x τ h => absurd h.1 (by simp))
  obtain ⟨h1, rfl⟩ := h
  cases h1
  refine j_last 1 d_Sc_init_60 rfl (q_okW (N := 7) (Nat.le_of_ble_eq_true rfl) (by decide)) rfl (by decide) (by decide) ?_
  refine j_dup d_Sc_init_61 rfl ?_
  refine j_iconst (v := nI 2) d_Sc_init_62 (by decide) ?_
  refine j_ldcS 2 rfl d_Sc_init_63 ?_
  refine j_callS m_Sc_packed [.ref (1000010 + 2)] [.int (nI 2), .ref 7, .ref 7, .ref 2] 4 0 0 cS_Sc_28 d_Sc_init_65 rfl rfl (Nat.le_of_ble_eq_true rfl) (Nat.le_of_ble_eq_true rfl) (Nat.le_of_ble_eq_true rfl) (Nat.le_of_ble_eq_true rfl) (Nat.le_of_ble_eq_true rfl) (c_Sc_packed (i := 2) (lst := [105, 102]) rfl (by simp [q_olds]) (by decide)) (fun v τ h => ?_) (fun x τ h => absurd h.1 (by simp))
  obtain ⟨h1, rfl⟩ := h
  cases h1
  refine j_last 2 d_Sc_init_68 rfl (q_okW (N := 7) (Nat.le_of_ble_eq_true rfl) (by decide)) rfl (by decide) (by decide) ?_
  refine j_dup d_Sc_init_69 rfl ?_
  refine j_iconst (v := nI 3) d_Sc_init_70 (by decide) ?_
  refine j_ldcS 3 rfl d_Sc_init_71 ?_
  refine j_callS m_Sc_packed [.ref (1000010 + 3)] [.int (nI 3), .ref 7, .ref 7, .ref 2] 4 0 0 cS_Sc_28 d_Sc_init_73 rfl rfl (Nat.le_of_ble_eq_true rfl) (Nat.le_of_ble_eq_true rfl) (Nat.le_of_ble_eq_true rfl) (Nat.le_of_ble_eq_true rfl) (Nat.le_of_ble_eq_true rfl) (c_Sc_packed (i := 3) (lst := [101, 108, 115, 101]) rfl (by simp [q_olds]) (by decide)) (fun v τ h => ?_) (fun x τ h => absurd h.1 (by simp))
  obtain ⟨h1, rfl⟩ := h
  cases h1
  refine j_last 3 d_Sc_init_76 rfl (q_okW (N := 7) (Nat.le_of_ble_eq_true rfl) (by decide)) rfl (by decide) (by decide) ?_
  refine j_dup d_Sc_init_77 rfl ?_
  refine j_iconst (v := nI 4) d_Sc_init_78 (by decide) ?_
  refine j_ldcS 4 rfl d_Sc_init_79 ?_
  refine j_callS m_Sc_packed [.ref (1000010 + 4)] [.int (nI 4), .ref 7, .ref 7, .ref 2] 4 0 0 cS_Sc_28 d_Sc_init_81 rfl rfl (Nat.le_of_ble_eq_true rfl) (Nat.le_of_ble_eq_true rfl) (Nat.le_of_ble_eq_true rfl) (Nat.le_of_ble_eq_true rfl) (Nat.le_of_ble_eq_true rfl) (c_Sc_packed (i := 4) (lst := [119, 104, 105, 108, 101]) rfl (by simp [q_olds]) (by decide)) (fun v τ h => ?_) (fun x τ h => absurd h.1 (by simp))
  obtain ⟨h1, rfl⟩ := h
  cases h1
  refine j_last 4 d_Sc_init_84 rfl (q_okW (N := 7) (Nat.le_of_ble_eq_true rfl) (by decide)) rfl (by decide) (by decide) ?_
  refine j_dup d_Sc_init_85 rfl ?_
  refine j_iconst (v := nI 5) d_Sc_init_86 (by decide) ?_
  refine j_ldcS 5 rfl d_Sc_init_87 ?_
  refine j_callS m_Sc_packed [.ref (1000010 + 5)] [.int (nI 5), .ref 7, .ref 7, .ref 2] 4 0 0 cS_Sc_28 d_Sc_init_89 rfl rfl (Nat.le_of_ble_eq_true rfl) (Nat.le_of_ble_eq_true rfl) (Nat.le_of_ble_eq_true rfl) (Nat.le_of_ble_eq_true rfl) (Nat.le_of_ble_eq_true rfl) (c_Sc_packed (i := 5) (lst := [97, 115, 115, 101, 114, 116]) rfl (by simp [q_olds]) (by decide)) (fun v τ h => ?_) (fun x τ h => absurd h.1 (by simp))
  obtain ⟨h1, rfl⟩ := h
  cases h1
  refine j_last 5 d_Sc_init_92 rfl (q_okW (N := 7) (Nat.le_of_ble_eq_true rfl) (by decide)) rfl (by decide) (by decide) ?_
  refine j_dup d_Sc_init_93 rfl ?_
  refine j_bipush (v := nI 6) d_Sc_init_94 (by decide) ?_
  refine j_ldcS 6 rfl d_Sc_init_96 ?_
  refine j_callS m_Sc_packed [.ref (1000010 + 6)] [.int (nI 6), .ref 7, .ref 7, .ref 2] 4 0 0 cS_Sc_28 d_Sc_init_98 rfl rfl (Nat.le_of_ble_eq_true rfl) (Nat.le_of_ble_eq_true rfl) (Nat.le_of_ble_eq_true rfl) (Nat.le_of_ble_eq_true rfl) (Nat.le_of_ble_eq_true rfl) (c_Sc_packed (i := 6) (lst := [97, 115, 115, 117, 109, 101]) rfl (by simp [q_olds]) (by decide)) (fun v τ h => ?_) (fun x τ h => absurd h.1 (by simp))
  obtain ⟨h1, rfl⟩ := h
  cases h1
  refine j_last 6 d_Sc_init_101 rfl (q_okW (N := 7) (Nat.le_of_ble_eq_true rfl) (by decide)) rfl (by decide) (by decide) ?_
  refine j_putR g_Sc_44_i d_Sc_init_102 ht (q_okW (N := 7) (Nat.le_of_ble_eq_true rfl) (by decide)) (by decide) ?_
  exact j_vret d_Sc_init_105 rfl (by decide) (by decide) ⟨rfl, rfl⟩
