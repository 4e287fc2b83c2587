/-! THE JDK's SMALL METHODS -/
section NretJ
variable {ω : q_W} {μ : q_M} {d mc ms cs sl pc : Nat} {L : List (Nat × Value)} {st : List Value} {σ : q_H} {Q : q_R → q_H → Prop}
theorem j_nret {v : Int32} {ty : FieldType} (hd : decode μ.2.1 pc = .ok (.ireturn, 1)) (hr0 : μ.2.2.2.1 = some ty) (hn : narrow ty (.int v) = .int v) (hc : cs ≤ mc) (hs : sl ≤ ms) (hQ : Q (.inl (some (.int v))) σ) : J ω μ d mc ms cs sl pc L [.int v] σ Q := by
  intro p l e R s m args below meth c H locs ls C hr hl hf
  obtain ⟨hx, hb, hml, hret, hlocks, -⟩ := id C
  refine W.widen hc hs ?_
  intro T hT X
  have hr1 : meth.sig.returnType = some ty := hret.trans hr0
  obtain ⟨fs, hret', hrun, hended, hW, hframe⟩ := X.leave (v := some (.int v)) (hlocks := hlocks) (fun h => by rw [hr1] at h; cases h)
  have hmeth' : T.vm.method? m = some meth := X.method'
  refine ⟨T.setFrames fs, ?_, .inl (some (.int v)), σ, locs, hrun, hended, hQ, ?_, hW, hframe, hf⟩
  · jvm_step X.here [X.here.top, hx, hb, hd, hmeth', hr1, hn, q_cv]
    (try refine ⟨rfl, ?_⟩); (try refine ⟨rfl, ?_⟩)
    first | (intro acts; rw [hret' _ acts rfl rfl rfl]) | rw [hret' _ _ rfl rfl rfl]
    exact Steps.refl _
  · show q_rep ω σ T.heap
    rw [hT]; exact hr
theorem j_topE {x v : Int32} (h : x = v) (kk : J ω μ d mc ms cs sl pc L (.int v :: st) σ Q) : J ω μ d mc ms cs sl pc L (.int x :: st) σ Q := h ▸ kk
theorem j_i2c {x : Int32} (hd : decode μ.2.1 pc = .ok (.i2c, 1)) (k : J ω μ d mc ms cs sl (pc + 1) L (.int (x.toUInt32 % 65536).toInt32 :: st) σ Q) : J ω μ d mc ms cs sl pc L (.int x :: st) σ Q :=
  fun p l e R s m args below meth c H locs ls C hr hl hf => lv_i2c C.1 C.2.1 hd rfl (k p l e R s m args below meth c H locs ls C hr hl hf)
theorem j_mono {Q' : q_R → q_H → Prop} (h : ∀ r τ, Q r τ → Q' r τ) (kk : J ω μ d mc ms cs sl pc L st σ Q) : J ω μ d mc ms cs sl pc L st σ Q' := by
  intro p l e R s m args below meth c H locs ls C hr hl hf T hT X
  obtain ⟨t, a1, r, τ, L1, b1, b2, b3, b4⟩ := kk p l e R s m args below meth c H locs ls C hr hl hf T hT X
  exact ⟨t, a1, r, τ, L1, b1, b2, h _ _ b3, b4⟩
end NretJ
def m_JS_length : q_M := (⟨"java/lang/String", "length", "()I"⟩, prog_24_method_54_code, 1, (Option.some FieldType.int), [])
def m_JS_coder : q_M := (⟨"java/lang/String", "coder", "()B"⟩, prog_24_method_152_code, 1, (Option.some FieldType.byte), [])
def m_JS_charAt : q_M := (⟨"java/lang/String", "charAt", "(I)C"⟩, prog_24_method_56_code, 2, (Option.some FieldType.char), [])
def m_JS_isLatin1 : q_M := (⟨"java/lang/String", "isLatin1", "()Z"⟩, prog_24_method_154_code, 1, (Option.some FieldType.boolean), [])
def m_JL_charAt : q_M := (⟨"java/lang/StringLatin1", "charAt", "([BI)C"⟩, prog_25_method_2_code, 2, (Option.some FieldType.char), [])
def m_JS_checkIndex : q_M := (⟨"java/lang/String", "checkIndex", "(II)V"⟩, prog_24_method_155_code, 2, (Option.none : Option FieldType), [])
def m_JP_checkIndex : q_M := (⟨"jdk/internal/util/Preconditions", "checkIndex", "(IILjava/util/function/BiFunction;)I"⟩, prog_31_method_11_code, 3, (Option.some FieldType.int), [])
def m_JU_charAt : q_M := (⟨"java/lang/StringUTF16", "charAt", "([BI)C"⟩, prog_26_method_83_code, 2, (Option.some FieldType.char), [])
def m_JU_checkIndex : q_M := (⟨"java/lang/StringUTF16", "checkIndex", "(I[B)V"⟩, prog_26_method_91_code, 2, (Option.none : Option FieldType), [])
def m_JU_length : q_M := (⟨"java/lang/StringUTF16", "length", "([B)I"⟩, prog_26_method_6_code, 1, (Option.some FieldType.int), [])
def m_JU_getChar : q_M := (⟨"java/lang/StringUTF16", "getChar", "([BI)C"⟩, prog_26_method_5_code, 2, (Option.some FieldType.char), [])
def m_JM_min : q_M := (⟨"java/lang/Math", "min", "(II)I"⟩, prog_22_method_69_code, 2, (Option.some FieldType.int), [])
def m_JM_max : q_M := (⟨"java/lang/Math", "max", "(II)I"⟩, prog_22_method_65_code, 2, (Option.some FieldType.int), [])
def m_JA_fill : q_M := (⟨"java/util/Arrays", "fill", "([II)V"⟩, prog_29_method_103_code, 4, (Option.none : Option FieldType), [])
def m_JS_indexOf : q_M := (⟨"java/lang/String", "indexOf", "(I)I"⟩, prog_24_method_79_code, 2, (Option.some FieldType.int), [])
def m_JS_indexOf_2 : q_M := (⟨"java/lang/String", "indexOf", "(II)I"⟩, prog_24_method_80_code, 3, (Option.some FieldType.int), [])
def m_JL_indexOf : q_M := (⟨"java/lang/StringLatin1", "indexOf", "([BIII)I"⟩, prog_25_method_22_code, 4, (Option.some FieldType.int), [])
def m_JL_canEncode : q_M := (⟨"java/lang/StringLatin1", "canEncode", "(I)Z"⟩, prog_25_method_4_code, 1, (Option.some FieldType.boolean), [])
def m_JL_indexOfChar : q_M := (⟨"java/lang/StringLatin1", "indexOfChar", "([BIII)I"⟩, prog_25_method_23_code, 6, (Option.some FieldType.int), [])
def m_JU_indexOf : q_M := (⟨"java/lang/StringUTF16", "indexOf", "([BIII)I"⟩, prog_26_method_40_code, 4, (Option.some FieldType.int), [])
def m_JU_indexOfChar : q_M := (⟨"java/lang/StringUTF16", "indexOfChar", "([BIII)I"⟩, prog_26_method_47_code, 4, (Option.some FieldType.int), [])
def m_JU_checkBoundsBeginEnd : q_M := (⟨"java/lang/StringUTF16", "checkBoundsBeginEnd", "(II[B)V"⟩, prog_26_method_93_code, 3, (Option.none : Option FieldType), [])
def m_JS_checkBoundsBeginEnd : q_M := (⟨"java/lang/String", "checkBoundsBeginEnd", "(III)V"⟩, prog_24_method_158_code, 3, (Option.none : Option FieldType), [])
def m_JP_checkFromToIndex : q_M := (⟨"jdk/internal/util/Preconditions", "checkFromToIndex", "(IIILjava/util/function/BiFunction;)I"⟩, prog_31_method_12_code, 4, (Option.some FieldType.int), [])
def m_JU_indexOfCharUnsafe : q_M := (⟨"java/lang/StringUTF16", "indexOfCharUnsafe", "([BIII)I"⟩, prog_26_method_48_code, 5, (Option.some FieldType.int), [])
def m_JU_indexOfSupplementary : q_M := (⟨"java/lang/StringUTF16", "indexOfSupplementary", "([BIII)I"⟩, prog_26_method_49_code, 7, (Option.some FieldType.int), [])
def m_JC_isValidCodePoint : q_M := (⟨"java/lang/Character", "isValidCodePoint", "(I)Z"⟩, prog_16_method_11_code, 2, (Option.some FieldType.boolean), [])
def m_JC_highSurrogate : q_M := (⟨"java/lang/Character", "highSurrogate", "(I)C"⟩, prog_16_method_28_code, 1, (Option.some FieldType.char), [])
def m_JC_lowSurrogate : q_M := (⟨"java/lang/Character", "lowSurrogate", "(I)C"⟩, prog_16_method_29_code, 1, (Option.some FieldType.char), [])
def m_JI_numberOfLeadingZeros : q_M := (⟨"java/lang/Integer", "numberOfLeadingZeros", "(I)I"⟩, prog_21_method_47_code, 2, (Option.some FieldType.int), [])
def m_JM_min_2 : q_M := (⟨"java/lang/Math", "min", "(JJ)J"⟩, prog_22_method_70_code, 4, (Option.some FieldType.long), [])
theorem d_JS_coder_0 : decode m_JS_coder.2.1 0 = .ok (.getstatic 38, 3) := by decide +kernel
theorem d_JS_coder_3 : decode m_JS_coder.2.1 3 = .ok (.ifCond .eq 10, 3) := by decide +kernel
theorem d_JS_coder_6 : decode m_JS_coder.2.1 6 = .ok (.aload_n 0, 1) := by decide +kernel
theorem d_JS_coder_7 : decode m_JS_coder.2.1 7 = .ok (.getfield 15, 3) := by decide +kernel
theorem d_JS_coder_10 : decode m_JS_coder.2.1 10 = .ok (.goto 4, 3) := by decide +kernel
theorem d_JS_coder_14 : decode m_JS_coder.2.1 14 = .ok (.ireturn, 1) := by decide +kernel
theorem d_JS_isLatin1_0 : decode m_JS_isLatin1.2.1 0 = .ok (.getstatic 38, 3) := by decide +kernel
theorem d_JS_isLatin1_3 : decode m_JS_isLatin1.2.1 3 = .ok (.ifCond .eq 14, 3) := by decide +kernel
theorem d_JS_isLatin1_6 : decode m_JS_isLatin1.2.1 6 = .ok (.aload_n 0, 1) := by decide +kernel
theorem d_JS_isLatin1_7 : decode m_JS_isLatin1.2.1 7 = .ok (.getfield 15, 3) := by decide +kernel
theorem d_JS_isLatin1_10 : decode m_JS_isLatin1.2.1 10 = .ok (.ifCond .ne 7, 3) := by decide +kernel
theorem d_JS_isLatin1_13 : decode m_JS_isLatin1.2.1 13 = .ok (.iconst 1, 1) := by decide +kernel
theorem d_JS_isLatin1_14 : decode m_JS_isLatin1.2.1 14 = .ok (.goto 4, 3) := by decide +kernel
theorem d_JS_isLatin1_18 : decode m_JS_isLatin1.2.1 18 = .ok (.ireturn, 1) := by decide +kernel
theorem d_JS_length_0 : decode m_JS_length.2.1 0 = .ok (.aload_n 0, 1) := by decide +kernel
theorem d_JS_length_1 : decode m_JS_length.2.1 1 = .ok (.getfield 9, 3) := by decide +kernel
theorem d_JS_length_4 : decode m_JS_length.2.1 4 = .ok (.arraylength, 1) := by decide +kernel
theorem d_JS_length_5 : decode m_JS_length.2.1 5 = .ok (.aload_n 0, 1) := by decide +kernel
theorem d_JS_length_6 : decode m_JS_length.2.1 6 = .ok (.invokevirtual 335, 3) := by decide +kernel
theorem d_JS_length_9 : decode m_JS_length.2.1 9 = .ok (.ishr, 1) := by decide +kernel
theorem d_JS_length_10 : decode m_JS_length.2.1 10 = .ok (.ireturn, 1) := by decide +kernel
theorem d_JP_checkIndex_0 : decode m_JP_checkIndex.2.1 0 = .ok (.iload_n 0, 1) := by decide +kernel
theorem d_JP_checkIndex_1 : decode m_JP_checkIndex.2.1 1 = .ok (.ifCond .lt 8, 3) := by decide +kernel
theorem d_JP_checkIndex_4 : decode m_JP_checkIndex.2.1 4 = .ok (.iload_n 0, 1) := by decide +kernel
theorem d_JP_checkIndex_5 : decode m_JP_checkIndex.2.1 5 = .ok (.iload_n 1, 1) := by decide +kernel
theorem d_JP_checkIndex_6 : decode m_JP_checkIndex.2.1 6 = .ok (.if_icmp .lt 10, 3) := by decide +kernel
theorem d_JP_checkIndex_16 : decode m_JP_checkIndex.2.1 16 = .ok (.iload_n 0, 1) := by decide +kernel
theorem d_JP_checkIndex_17 : decode m_JP_checkIndex.2.1 17 = .ok (.ireturn, 1) := by decide +kernel
theorem d_JS_checkIndex_0 : decode m_JS_checkIndex.2.1 0 = .ok (.iload_n 0, 1) := by decide +kernel
theorem d_JS_checkIndex_1 : decode m_JS_checkIndex.2.1 1 = .ok (.iload_n 1, 1) := by decide +kernel
theorem d_JS_checkIndex_2 : decode m_JS_checkIndex.2.1 2 = .ok (.getstatic 1053, 3) := by decide +kernel
theorem d_JS_checkIndex_5 : decode m_JS_checkIndex.2.1 5 = .ok (.invokestatic 1059, 3) := by decide +kernel
theorem d_JS_checkIndex_8 : decode m_JS_checkIndex.2.1 8 = .ok (.pop, 1) := by decide +kernel
theorem d_JS_checkIndex_9 : decode m_JS_checkIndex.2.1 9 = .ok (.return_, 1) := by decide +kernel
theorem d_JL_charAt_0 : decode m_JL_charAt.2.1 0 = .ok (.iload_n 1, 1) := by decide +kernel
theorem d_JL_charAt_1 : decode m_JL_charAt.2.1 1 = .ok (.aload_n 0, 1) := by decide +kernel
theorem d_JL_charAt_2 : decode m_JL_charAt.2.1 2 = .ok (.arraylength, 1) := by decide +kernel
theorem d_JL_charAt_3 : decode m_JL_charAt.2.1 3 = .ok (.invokestatic 9, 3) := by decide +kernel
theorem d_JL_charAt_6 : decode m_JL_charAt.2.1 6 = .ok (.aload_n 0, 1) := by decide +kernel
theorem d_JL_charAt_7 : decode m_JL_charAt.2.1 7 = .ok (.iload_n 1, 1) := by decide +kernel
theorem d_JL_charAt_8 : decode m_JL_charAt.2.1 8 = .ok (.baload, 1) := by decide +kernel
theorem d_JL_charAt_9 : decode m_JL_charAt.2.1 9 = .ok (.sipush 255, 3) := by decide +kernel
theorem d_JL_charAt_12 : decode m_JL_charAt.2.1 12 = .ok (.iand, 1) := by decide +kernel
theorem d_JL_charAt_13 : decode m_JL_charAt.2.1 13 = .ok (.i2c, 1) := by decide +kernel
theorem d_JL_charAt_14 : decode m_JL_charAt.2.1 14 = .ok (.ireturn, 1) := by decide +kernel
theorem d_JS_charAt_0 : decode m_JS_charAt.2.1 0 = .ok (.aload_n 0, 1) := by decide +kernel
theorem d_JS_charAt_1 : decode m_JS_charAt.2.1 1 = .ok (.invokevirtual 492, 3) := by decide +kernel
theorem d_JS_charAt_4 : decode m_JS_charAt.2.1 4 = .ok (.ifCond .eq 12, 3) := by decide +kernel
theorem d_JS_charAt_7 : decode m_JS_charAt.2.1 7 = .ok (.aload_n 0, 1) := by decide +kernel
theorem d_JS_charAt_8 : decode m_JS_charAt.2.1 8 = .ok (.getfield 9, 3) := by decide +kernel
theorem d_JS_charAt_11 : decode m_JS_charAt.2.1 11 = .ok (.iload_n 1, 1) := by decide +kernel
theorem d_JS_charAt_12 : decode m_JS_charAt.2.1 12 = .ok (.invokestatic 495, 3) := by decide +kernel
theorem d_JS_charAt_15 : decode m_JS_charAt.2.1 15 = .ok (.ireturn, 1) := by decide +kernel
theorem cd_JS_coder : q_cd m_JS_coder := ⟨by decide +kernel, List.mem_of_getElem? (i := 3) (by decide +kernel), Or.inl ⟨rfl, List.mem_of_getElem? (i := 56) (by decide +kernel)⟩⟩
theorem cvs_JS_335 : q_CVS "java/lang/String" 335 m_JS_coder 0 := ⟨⟨cd_JS_coder, by decide, by decide, by decide, by decide +kernel⟩, Or.inl (List.mem_of_getElem? (i := 53) (by decide +kernel)), List.mem_of_getElem? (i := 54) (by decide +kernel), List.mem_append_right _ (List.mem_of_getElem? (i := 55) (by decide +kernel))⟩
theorem cd_JP_checkIndex : q_cd m_JP_checkIndex := ⟨by decide +kernel, List.mem_of_getElem? (i := 5) (by decide +kernel), Or.inl ⟨rfl, List.mem_of_getElem? (i := 78) (by decide +kernel)⟩⟩
theorem cS_JS_1059 : q_CS "java/lang/String" 1059 m_JP_checkIndex 3 := ⟨⟨cd_JP_checkIndex, by decide, by decide, by decide, by decide +kernel⟩, Or.inl (List.mem_of_getElem? (i := 76) (by decide +kernel)), List.mem_of_getElem? (i := 77) (by decide +kernel)⟩
theorem cd_JS_checkIndex : q_cd m_JS_checkIndex := ⟨by decide +kernel, List.mem_of_getElem? (i := 3) (by decide +kernel), Or.inl ⟨rfl, List.mem_of_getElem? (i := 73) (by decide +kernel)⟩⟩
theorem cS_JL_9 : q_CS "java/lang/StringLatin1" 9 m_JS_checkIndex 2 := ⟨⟨cd_JS_checkIndex, by decide, by decide, by decide, by decide +kernel⟩, Or.inl (List.mem_of_getElem? (i := 71) (by decide +kernel)), List.mem_of_getElem? (i := 72) (by decide +kernel)⟩
theorem cd_JS_isLatin1 : q_cd m_JS_isLatin1 := ⟨by decide +kernel, List.mem_of_getElem? (i := 3) (by decide +kernel), Or.inl ⟨rfl, List.mem_of_getElem? (i := 67) (by decide +kernel)⟩⟩
theorem cvs_JS_492 : q_CVS "java/lang/String" 492 m_JS_isLatin1 0 := ⟨⟨cd_JS_isLatin1, by decide, by decide, by decide, by decide +kernel⟩, Or.inl (List.mem_of_getElem? (i := 64) (by decide +kernel)), List.mem_of_getElem? (i := 65) (by decide +kernel), List.mem_append_right _ (List.mem_of_getElem? (i := 66) (by decide +kernel))⟩
theorem cd_JL_charAt : q_cd m_JL_charAt := ⟨by decide +kernel, List.mem_of_getElem? (i := 4) (by decide +kernel), Or.inl ⟨rfl, List.mem_of_getElem? (i := 70) (by decide +kernel)⟩⟩
theorem cS_JS_495 : q_CS "java/lang/String" 495 m_JL_charAt 2 := ⟨⟨cd_JL_charAt, by decide, by decide, by decide, by decide +kernel⟩, Or.inl (List.mem_of_getElem? (i := 68) (by decide +kernel)), List.mem_of_getElem? (i := 69) (by decide +kernel)⟩
set_option maxHeartbeats 1000000 in
theorem c_JS_coder {ω : q_W} {σ : q_H} {i : Nat} {tx : String × Nat × String} (hi : q_strs[i]? = some tx) : J ω m_JS_coder 0 0 0 0 0 0 [(0, .ref (1000010 + i))] [] σ (fun r τ => r = .inl (some (.int 0)) ∧ τ = σ) := by
  refine j_gets (C := "java/lang/String") (n := "COMPACT_STRINGS") (dd := "Z") (v := .int 1) (by simp [q_stas]) (List.mem_of_getElem? (i := 57) (by decide +kernel)) d_JS_coder_0 ?_
  refine j_if_eq 13 d_JS_coder_3 (by decide) (fun h => absurd h (by decide)) (fun _ => ?_)
  refine j_aload_n d_JS_coder_6 0 rfl ?_
  refine j_getSc hi (List.mem_of_getElem? (i := 2056) (by decide +kernel)) d_JS_coder_7 ?_
  refine j_goto 14 d_JS_coder_10 (by decide) ?_
  exact j_nret d_JS_coder_14 rfl (by decide) (by decide) (by decide) ⟨rfl, rfl⟩
set_option maxHeartbeats 1000000 in
theorem c_JS_isLatin1 {ω : q_W} {σ : q_H} {i : Nat} {tx : String × Nat × String} (hi : q_strs[i]? = some tx) : J ω m_JS_isLatin1 0 0 0 0 0 0 [(0, .ref (1000010 + i))] [] σ (fun r τ => r = .inl (some (.int 1)) ∧ τ = σ) := by
  refine j_gets (C := "java/lang/String") (n := "COMPACT_STRINGS") (dd := "Z") (v := .int 1) (by simp [q_stas]) (List.mem_of_getElem? (i := 57) (by decide +kernel)) d_JS_isLatin1_0 ?_
  refine j_if_eq 17 d_JS_isLatin1_3 (by decide) (fun h => absurd h (by decide)) (fun _ => ?_)
  refine j_aload_n d_JS_isLatin1_6 0 rfl ?_
  refine j_getSc hi (List.mem_of_getElem? (i := 2056) (by decide +kernel)) d_JS_isLatin1_7 ?_
  refine j_if_ne 17 d_JS_isLatin1_10 (by decide) (fun h => absurd h (by decide)) (fun _ => ?_)
  refine j_iconst (v := 1) d_JS_isLatin1_13 (by decide) ?_
  refine j_goto 18 d_JS_isLatin1_14 (by decide) ?_
  exact j_nret d_JS_isLatin1_18 rfl (by decide) (by decide) (by decide) ⟨rfl, rfl⟩
set_option maxHeartbeats 1000000 in
theorem c_JS_length {ω : q_W} {σ : q_H} {i : Nat} {tx : String × Nat × String} (hi : q_strs[i]? = some tx) {lst : List Int32} (hm : (1000100 + i, FieldType.byte, lst) ∈ q_olds) (hlen : lst.length < 65536) : J ω m_JS_length 1 0 0 0 0 0 [(0, .ref (1000010 + i))] [] σ (fun r τ => r = .inl (some (.int (nI lst.length))) ∧ τ = σ) := by
  refine j_aload_n d_JS_length_0 0 rfl ?_
  refine j_getSv hi (List.mem_of_getElem? (i := 2055) (by decide +kernel)) d_JS_length_1 ?_
  refine j_alenO hm (by omega) d_JS_length_4 ?_
  refine j_aload_n d_JS_length_5 0 rfl ?_
  refine j_callVS m_JS_coder [] [.int (nI lst.length)] 0 0 0 cvs_JS_335 d_JS_length_6 rfl rfl hi (Nat.le_of_ble_eq_true rfl) (Nat.le_of_ble_eq_true rfl) (Nat.le_of_ble_eq_true rfl) (Nat.le_of_ble_eq_true rfl) (Nat.le_of_ble_eq_true rfl) (c_JS_coder hi) (fun v τ h => ?_) (fun x τ h => absurd h.1 (by simp))
  obtain ⟨h1, rfl⟩ := h
  cases h1
  refine j_ishr d_JS_length_9 ?_
  refine j_topE (v := nI lst.length) (sc_shr0 (by omega)) ?_
  exact j_iret d_JS_length_10 rfl (by decide) (by decide) ⟨rfl, rfl⟩
set_option maxHeartbeats 1000000 in
theorem c_JP_checkIndex {ω : q_W} {σ : q_H} {k n : Nat} (hk : k < n) (hn : n < 65536) (v : Value) : J ω m_JP_checkIndex 0 0 0 0 0 0 [(0, .int (nI k)), (1, .int (nI n)), (2, v)] [] σ (fun r τ => r = .inl (some (.int (nI k))) ∧ τ = σ) := by
  refine j_iload_n d_JP_checkIndex_0 0 rfl ?_
  refine j_if_lt 9 d_JP_checkIndex_1 (by decide) (fun h => absurd h (nI_pos (by omega))) (fun _ => ?_)
  refine j_iload_n d_JP_checkIndex_4 0 rfl ?_
  refine j_iload_n d_JP_checkIndex_5 1 rfl ?_
  refine j_icmp_lt 16 d_JP_checkIndex_6 (by decide) (fun _ => ?_) (fun h => absurd (nI_lt hk (by omega)) h)
  refine j_iload_n d_JP_checkIndex_16 0 rfl ?_
  exact j_iret d_JP_checkIndex_17 rfl (by decide) (by decide) ⟨rfl, rfl⟩
set_option maxHeartbeats 1000000 in
theorem c_JS_checkIndex {ω : q_W} {σ : q_H} {k n : Nat} (hk : k < n) (hn : n < 65536) : J ω m_JS_checkIndex 1 0 0 0 0 0 [(0, .int (nI k)), (1, .int (nI n))] [] σ (fun r τ => r = .inl none ∧ τ = σ) := by
  refine j_iload_n d_JS_checkIndex_0 0 rfl ?_
  refine j_iload_n d_JS_checkIndex_1 1 rfl ?_
  refine j_getsF (List.mem_of_getElem? (i := 74) (by decide +kernel)) d_JS_checkIndex_2 (fun v hv => ?_)
  have hlg : lv_args 0 [.int (nI k), .int (nI n), v] = [(0, .int (nI k)), (1, .int (nI n)), (2, v)] := rfl
  refine j_callS m_JP_checkIndex [.int (nI k), .int (nI n), v] [] 0 0 0 cS_JS_1059 d_JS_checkIndex_5 rfl rfl (by decide) (by decide) ?_ (by decide) (by decide) (c_JP_checkIndex hk hn v) (fun v τ h => ?_) (fun x τ h => absurd h.1 (by simp))
  · rcases hv with rfl | rfl <;> exact Nat.le_of_ble_eq_true rfl
  obtain ⟨h1, rfl⟩ := h
  cases h1
  refine j_pop d_JS_checkIndex_8 rfl ?_
  exact j_vret d_JS_checkIndex_9 rfl (by decide) (by decide) ⟨rfl, rfl⟩
set_option maxHeartbeats 1000000 in
theorem c_JL_charAt {ω : q_W} {σ : q_H} {i k : Nat} {lst : List Int32} (hm : (1000100 + i, FieldType.byte, lst) ∈ q_olds) (hlen : lst.length < 65536) (hk : k < lst.length) : J ω m_JL_charAt 2 0 0 0 0 0 [(0, .ref (1000100 + i)), (1, .int (nI k))] [] σ (fun r τ => r = .inl (some (.int (lst.getD k 0 &&& 255))) ∧ τ = σ) := by
  refine j_iload_n d_JL_charAt_0 1 rfl ?_
  refine j_aload_n d_JL_charAt_1 0 rfl ?_
  refine j_alenO hm (by omega) d_JL_charAt_2 ?_
  refine j_callS m_JS_checkIndex [.int (nI k), .int (nI lst.length)] [] 1 0 0 cS_JL_9 d_JL_charAt_3 rfl rfl (Nat.le_of_ble_eq_true rfl) (Nat.le_of_ble_eq_true rfl) (Nat.le_of_ble_eq_true rfl) (Nat.le_of_ble_eq_true rfl) (Nat.le_of_ble_eq_true rfl) (c_JS_checkIndex hk hlen) (fun v τ h => ?_) (fun x τ h => absurd h.1 (by simp))
  obtain ⟨h1, rfl⟩ := h
  cases h1
  refine j_aload_n d_JL_charAt_6 0 rfl ?_
  refine j_iload_n d_JL_charAt_7 1 rfl ?_
  refine j_baldO k hm (by omega) d_JL_charAt_8 rfl hk (by omega) ?_
  refine j_sipush (v := 255) d_JL_charAt_9 (by decide) ?_
  refine j_iand d_JL_charAt_12 ?_
  refine j_i2c d_JL_charAt_13 ?_
  refine j_topE (v := lst.getD k 0 &&& 255) (sc_c2 _) ?_
  exact j_nret d_JL_charAt_14 rfl (sc_nar _) (by decide) (by decide) ⟨rfl, rfl⟩
set_option maxHeartbeats 1000000 in
theorem c_JS_charAt {ω : q_W} {σ : q_H} {i : Nat} {tx : String × Nat × String} (hi : q_strs[i]? = some tx) {lst : List Int32} (hm : (1000100 + i, FieldType.byte, lst) ∈ q_olds) (hlen : lst.length < 65536) {k : Nat} (hk : k < lst.length) : J ω m_JS_charAt 3 0 0 0 0 0 [(0, .ref (1000010 + i)), (1, .int (nI k))] [] σ (fun r τ => r = .inl (some (.int (lst.getD k 0 &&& 255))) ∧ τ = σ) := by
  refine j_aload_n d_JS_charAt_0 0 rfl ?_
  refine j_callVS m_JS_isLatin1 [] [] 0 0 0 cvs_JS_492 d_JS_charAt_1 rfl rfl hi (Nat.le_of_ble_eq_true rfl) (Nat.le_of_ble_eq_true rfl) (Nat.le_of_ble_eq_true rfl) (Nat.le_of_ble_eq_true rfl) (Nat.le_of_ble_eq_true rfl) (c_JS_isLatin1 hi) (fun v τ h => ?_) (fun x τ h => absurd h.1 (by simp))
  obtain ⟨h1, rfl⟩ := h
  cases h1
  refine j_if_eq 16 d_JS_charAt_4 (by decide) (fun h => absurd h (by decide)) (fun _ => ?_)
  refine j_aload_n d_JS_charAt_7 0 rfl ?_
  refine j_getSv hi (List.mem_of_getElem? (i := 2055) (by decide +kernel)) d_JS_charAt_8 ?_
  refine j_iload_n d_JS_charAt_11 1 rfl ?_
  refine j_callS m_JL_charAt [.ref (1000100 + i), .int (nI k)] [] 2 0 0 cS_JS_495 d_JS_charAt_12 rfl rfl (Nat.le_of_ble_eq_true rfl) (Nat.le_of_ble_eq_true rfl) (Nat.le_of_ble_eq_true rfl) (Nat.le_of_ble_eq_true rfl) (Nat.le_of_ble_eq_true rfl) (c_JL_charAt hm hlen hk) (fun v τ h => ?_) (fun x τ h => absurd h.1 (by simp))
  obtain ⟨h1, rfl⟩ := h
  cases h1
  exact j_nret d_JS_charAt_15 rfl (sc_nar _) (by decide) (by decide) ⟨rfl, rfl⟩
