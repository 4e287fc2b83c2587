/-! Integer.numberOfLeadingZeros, of what TOKENS hold -/
theorem w_ldcw {p : Program} {l : Launch} {e : Env} {R : Room} {s : State} {m : MethodId} {args : Array Value} {below : List Frame} {meth : Method} {c : Code} {H : Heap} {locs : List Loc} {cells slots : Nat} {Q : State → Prop} {cc : ByteArray} {pc : Nat} {ls : Array Slot} {rest : List Value} (hexec : p.tables.exec = Jvm.exec) (hb : c.code = cc) {own : String} {index : Nat} {v : Int32} (hown : s.vm.findClass own = some m.cls) (hconst : (Jvm.Cond.constant own index v).before args s = true) (hdg : decode cc pc = .ok (.ldc_w index, 3)) (k : W p l e R s m args below meth c H locs cells slots Q (F0 m (pc + 3) ls (.int v :: rest))) : W p l e R s m args below meth c H locs cells slots Q (F0 m pc ls rest) := by
  intro T hT X
  obtain ⟨t, a, b⟩ := k T hT X
  refine ⟨t, ?_, b⟩
  obtain ⟨k1, cf, bytes, hk, hcf, hcp, hbb⟩ := Cond.constant_spec hown hconst
  obtain ⟨k2, hk', he⟩ := X.warmed.alike.2.2 _ _ hk
  have hdg' : decode c.code (F0 m pc ls rest).pc = .ok (.ldc_w index, 3) := by rw [hb]; exact hdg
  jvm_step X.here [hexec, hdg', Op.ldc_w.wp_int (s := T) (f := F0 m pc ls rest) X.here.top hk' (by rw [he]; exact hcf) hcp, hbb]
  exact a
section NzJ
variable {ω : q_W} {μ : q_M} {d mc ms cs sl pc : Nat} {L : List (Nat × Value)} {st : List Value} {σ : q_H} {Q : q_R → q_H → Prop}
theorem j_ldcw {idx : Nat} {v : Int32} (hc : Cond.constant μ.1.cls idx v ∈ tables_1) (hd : decode μ.2.1 pc = .ok (.ldc_w idx, 3)) (kk : J ω μ d mc ms cs sl (pc + 3) L (.int v :: st) σ Q) : J ω μ d mc ms cs sl pc L st σ Q :=
  fun p l e R s m args below meth c H locs ls C hr hl hf => w_ldcw C.1 C.2.1 C.2.2.2.2.2.1 (C.2.2.2.2.2.2.2.1 _ (q_in hc)) hd (kk p l e R s m args below meth c H locs ls C hr hl hf)
theorem k_JI_264 : Cond.constant "java/lang/Integer" 264 65536 ∈ tables_1 := List.mem_of_getElem? (i := 1914) (by decide +kernel)
theorem d_nz_0 : decode m_JI_numberOfLeadingZeros.2.1 0 = .ok (.iload_n 0, 1) := by decide +kernel
theorem d_nz_1 : decode m_JI_numberOfLeadingZeros.2.1 1 = .ok (.ifCond .gt 14, 3) := by decide +kernel
theorem d_nz_4 : decode m_JI_numberOfLeadingZeros.2.1 4 = .ok (.iload_n 0, 1) := by decide +kernel
theorem d_nz_5 : decode m_JI_numberOfLeadingZeros.2.1 5 = .ok (.ifCond .ne 8, 3) := by decide +kernel
theorem d_nz_8 : decode m_JI_numberOfLeadingZeros.2.1 8 = .ok (.bipush 32, 2) := by decide +kernel
theorem d_nz_10 : decode m_JI_numberOfLeadingZeros.2.1 10 = .ok (.goto 4, 3) := by decide +kernel
theorem d_nz_14 : decode m_JI_numberOfLeadingZeros.2.1 14 = .ok (.ireturn, 1) := by decide +kernel
theorem d_nz_15 : decode m_JI_numberOfLeadingZeros.2.1 15 = .ok (.bipush 31, 2) := by decide +kernel
theorem d_nz_17 : decode m_JI_numberOfLeadingZeros.2.1 17 = .ok (.istore_n 1, 1) := by decide +kernel
theorem d_nz_18 : decode m_JI_numberOfLeadingZeros.2.1 18 = .ok (.iload_n 0, 1) := by decide +kernel
theorem d_nz_19 : decode m_JI_numberOfLeadingZeros.2.1 19 = .ok (.ldc_w 264, 3) := by decide +kernel
theorem d_nz_22 : decode m_JI_numberOfLeadingZeros.2.1 22 = .ok (.if_icmp .lt 11, 3) := by decide +kernel
theorem d_nz_33 : decode m_JI_numberOfLeadingZeros.2.1 33 = .ok (.iload_n 0, 1) := by decide +kernel
theorem d_nz_34 : decode m_JI_numberOfLeadingZeros.2.1 34 = .ok (.sipush 256, 3) := by decide +kernel
theorem d_nz_37 : decode m_JI_numberOfLeadingZeros.2.1 37 = .ok (.if_icmp .lt 11, 3) := by decide +kernel
theorem d_nz_48 : decode m_JI_numberOfLeadingZeros.2.1 48 = .ok (.iload_n 0, 1) := by decide +kernel
theorem d_nz_49 : decode m_JI_numberOfLeadingZeros.2.1 49 = .ok (.bipush 16, 2) := by decide +kernel
theorem d_nz_51 : decode m_JI_numberOfLeadingZeros.2.1 51 = .ok (.if_icmp .lt 10, 3) := by decide +kernel
theorem d_nz_54 : decode m_JI_numberOfLeadingZeros.2.1 54 = .ok (.iinc 1 (-4), 3) := by decide +kernel
theorem d_nz_57 : decode m_JI_numberOfLeadingZeros.2.1 57 = .ok (.iload_n 0, 1) := by decide +kernel
theorem d_nz_58 : decode m_JI_numberOfLeadingZeros.2.1 58 = .ok (.iconst 4, 1) := by decide +kernel
theorem d_nz_59 : decode m_JI_numberOfLeadingZeros.2.1 59 = .ok (.iushr, 1) := by decide +kernel
theorem d_nz_60 : decode m_JI_numberOfLeadingZeros.2.1 60 = .ok (.istore_n 0, 1) := by decide +kernel
theorem d_nz_61 : decode m_JI_numberOfLeadingZeros.2.1 61 = .ok (.iload_n 0, 1) := by decide +kernel
theorem d_nz_62 : decode m_JI_numberOfLeadingZeros.2.1 62 = .ok (.iconst 4, 1) := by decide +kernel
theorem d_nz_63 : decode m_JI_numberOfLeadingZeros.2.1 63 = .ok (.if_icmp .lt 10, 3) := by decide +kernel
theorem d_nz_66 : decode m_JI_numberOfLeadingZeros.2.1 66 = .ok (.iinc 1 (-2), 3) := by decide +kernel
theorem d_nz_69 : decode m_JI_numberOfLeadingZeros.2.1 69 = .ok (.iload_n 0, 1) := by decide +kernel
theorem d_nz_70 : decode m_JI_numberOfLeadingZeros.2.1 70 = .ok (.iconst 2, 1) := by decide +kernel
theorem d_nz_71 : decode m_JI_numberOfLeadingZeros.2.1 71 = .ok (.iushr, 1) := by decide +kernel
theorem d_nz_72 : decode m_JI_numberOfLeadingZeros.2.1 72 = .ok (.istore_n 0, 1) := by decide +kernel
theorem d_nz_73 : decode m_JI_numberOfLeadingZeros.2.1 73 = .ok (.iload_n 1, 1) := by decide +kernel
theorem d_nz_74 : decode m_JI_numberOfLeadingZeros.2.1 74 = .ok (.iload_n 0, 1) := by decide +kernel
theorem d_nz_75 : decode m_JI_numberOfLeadingZeros.2.1 75 = .ok (.iconst 1, 1) := by decide +kernel
theorem d_nz_76 : decode m_JI_numberOfLeadingZeros.2.1 76 = .ok (.iushr, 1) := by decide +kernel
theorem d_nz_77 : decode m_JI_numberOfLeadingZeros.2.1 77 = .ok (.isub, 1) := by decide +kernel
theorem d_nz_78 : decode m_JI_numberOfLeadingZeros.2.1 78 = .ok (.ireturn, 1) := by decide +kernel
theorem nz_all : ∀ j : Nat, j < 256 → (max 1 (32 - (31 - zUshr (j : Int) 1)) = lwd (j : Int) ∨ 4 ≤ j) ∧ (max 1 (32 - (29 - zUshr (zUshr (j : Int) 2) 1)) = lwd (j : Int) ∨ j < 4 ∨ 16 ≤ j) ∧ (max 1 (32 - (27 - zUshr (zUshr (j : Int) 4) 1)) = lwd (j : Int) ∨ j < 16 ∨ 64 ≤ j) ∧ (max 1 (32 - (25 - zUshr (zUshr (zUshr (j : Int) 4) 2) 1)) = lwd (j : Int) ∨ j < 64) ∧ (zUshr (j : Int) 4 < 4 ↔ j < 64) ∧ (0 ≤ zUshr (j : Int) 1 ∧ zUshr (j : Int) 1 < 1000) ∧ (0 ≤ zUshr (zUshr (j : Int) 2) 1 ∧ zUshr (zUshr (j : Int) 2) 1 < 1000) ∧ (0 ≤ zUshr (zUshr (j : Int) 4) 1 ∧ zUshr (zUshr (j : Int) 4) 1 < 1000) ∧ (0 ≤ zUshr (zUshr (zUshr (j : Int) 4) 2) 1 ∧ zUshr (zUshr (zUshr (j : Int) 4) 2) 1 < 1000) := by decide +kernel
theorem c_nz {K : Int → q_H → Prop} {x : Int} (hx : 0 ≤ x ∧ x ≤ 255) (kk : ∀ v, inR v → inR (32 - v) → max 1 (32 - v) = lwd x → K v σ) : J ω m_JI_numberOfLeadingZeros d 0 0 0 0 0 [(0, .int (zI x))] [] σ (q_ki K) := by
  obtain ⟨j, rfl⟩ : ∃ j : Nat, x = (j : Int) := ⟨x.toNat, by omega⟩
  obtain ⟨n1, n2, n3, n4, n5, n6, n7, n8, n9⟩ := nz_all j (by omega)
  have ret : ∀ (y n : Int), inR (n - zUshr y 1) → inR (32 - (n - zUshr y 1)) → max 1 (32 - (n - zUshr y 1)) = lwd (j : Int) → J ω m_JI_numberOfLeadingZeros d 0 0 0 0 73 [(0, .int (zI y)), (1, .int (zI n))] [] σ (q_ki K) := fun y n h1 h2 h3 => by
    refine j_iload_n d_nz_73 1 rfl ?_
    refine j_iload_n d_nz_74 0 rfl ?_
    refine zj_iconst d_nz_75 ?_
    refine zj_iushr d_nz_76 ?_
    refine zj_isub _ rfl d_nz_77 ?_
    exact zj_iret d_nz_78 rfl (Nat.zero_le _) (Nat.zero_le _) ⟨_, h1, rfl, kk _ h1 h2 h3⟩
  have two : ∀ (y n : Int), inR y → (y < 4 → inR (n - zUshr y 1) ∧ inR (32 - (n - zUshr y 1)) ∧ max 1 (32 - (n - zUshr y 1)) = lwd (j : Int)) → (4 ≤ y → inR (n - 2 - zUshr (zUshr y 2) 1) ∧ inR (32 - (n - 2 - zUshr (zUshr y 2) 1)) ∧ max 1 (32 - (n - 2 - zUshr (zUshr y 2) 1)) = lwd (j : Int)) → J ω m_JI_numberOfLeadingZeros d 0 0 0 0 61 [(0, .int (zI y)), (1, .int (zI n))] [] σ (q_ki K) := fun y n iy h1 h2 => by
    refine j_iload_n d_nz_61 0 rfl ?_
    refine zj_iconst d_nz_62 ?_
    refine zj_icmp_lt 73 d_nz_63 (by decide) iy ⟨by decide, by decide⟩ (fun c => ?_) (fun c => ?_)
    · obtain ⟨a, b, e⟩ := h1 c
      exact ret y n a b e
    · obtain ⟨a, b, e⟩ := h2 c
      refine zj_iinc (L' := [(1, .int (zI (n - 2))), (0, .int (zI y))]) (n - 2) d_nz_66 1 rfl (by omega) (by decide) rfl ?_
      refine j_iload_n d_nz_69 1 rfl ?_
      refine zj_iconst d_nz_70 ?_
      refine zj_iushr d_nz_71 ?_
      refine j_istore_n (L' := [(0, .int (zI (zUshr y 2))), (1, .int (zI (n - 2)))]) d_nz_72 (by decide) rfl ?_
      exact ret _ _ a b e
  refine j_iload_n d_nz_0 0 rfl ?_
  refine zj_if_gt 15 d_nz_1 (by decide) ⟨by omega, by omega⟩ (fun c => ?_) (fun c => ?_)
  · refine j_bipush (v := zI 31) d_nz_15 (by decide) ?_
    refine j_istore_n (L' := [(1, .int (zI 31)), (0, .int (zI (j : Int)))]) d_nz_17 (by decide) rfl ?_
    refine j_iload_n d_nz_18 1 rfl ?_
    refine j_ldcw k_JI_264 d_nz_19 ?_
    rw [show (65536 : Int32) = zI 65536 by decide]
    refine zj_icmp_lt 33 d_nz_22 (by decide) ⟨by omega, by omega⟩ ⟨by decide, by decide⟩ (fun _ => ?_) (fun q => absurd q (by omega))
    refine j_iload_n d_nz_33 1 rfl ?_
    refine j_sipush (v := zI 256) d_nz_34 (by decide) ?_
    refine zj_icmp_lt 48 d_nz_37 (by decide) ⟨by omega, by omega⟩ ⟨by decide, by decide⟩ (fun _ => ?_) (fun q => absurd q (by omega))
    refine j_iload_n d_nz_48 1 rfl ?_
    refine j_bipush (v := zI 16) d_nz_49 (by decide) ?_
    refine zj_icmp_lt 61 d_nz_51 (by decide) ⟨by omega, by omega⟩ ⟨by decide, by decide⟩ (fun c2 => ?_) (fun c2 => ?_)
    · refine j_sel [1, 0] rfl (two (j : Int) 31 ⟨by omega, by omega⟩ (fun q => ⟨⟨by omega, by omega⟩, ⟨by omega, by omega⟩, ?_⟩) (fun q => ⟨⟨by omega, by omega⟩, ⟨by omega, by omega⟩, ?_⟩))
      · rcases n1 with e | e
        · exact e
        · omega
      · rcases n2 with e | e
        · exact e
        · omega
    · refine zj_iinc (L' := [(1, .int (zI 27)), (0, .int (zI (j : Int)))]) 27 d_nz_54 0 rfl (by omega) (by decide) rfl ?_
      refine j_iload_n d_nz_57 1 rfl ?_
      refine zj_iconst d_nz_58 ?_
      refine zj_iushr d_nz_59 ?_
      refine j_istore_n (L' := [(0, .int (zI (zUshr (j : Int) 4))), (1, .int (zI 27))]) d_nz_60 (by decide) rfl ?_
      refine two _ 27 (inR_of _) (fun q => ⟨⟨by omega, by omega⟩, ⟨by omega, by omega⟩, ?_⟩) (fun q => ⟨⟨by omega, by omega⟩, ⟨by omega, by omega⟩, ?_⟩)
      · rcases n3 with e | e
        · exact e
        · omega
      · rcases n4 with e | e
        · exact e
        · omega
  · have j0 : j = 0 := by omega
    subst j0
    refine j_iload_n d_nz_4 0 rfl ?_
    refine zj_if_ne 13 d_nz_5 (by decide) ⟨by decide, by decide⟩ (fun q => absurd rfl q) (fun _ => ?_)
    refine j_bipush (v := zI 32) d_nz_8 (by decide) ?_
    refine j_goto 14 d_nz_10 (by decide) ?_
    exact zj_iret d_nz_14 rfl (Nat.zero_le _) (Nat.zero_le _) ⟨32, ⟨by decide, by decide⟩, rfl, kk 32 ⟨by decide, by decide⟩ ⟨by decide, by decide⟩ (by decide +kernel)⟩
end NzJ
