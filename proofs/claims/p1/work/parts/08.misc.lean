/-! SWITCHES, CONSTANTS, STATICS, NATIVES -/
section MiscJ
variable {ω : q_W} {μ : q_M} {d mc ms cs sl pc : Nat} {L : List (Nat × Value)} {st : List Value} {σ : q_H} {Q : q_R → q_H → Prop}
theorem j_tabOut {x : Int32} {dflt lo hi : Int} {offs : Array Int} {len : Nat} (tgt : Nat) (hd : decode μ.2.1 pc = .ok (.tableswitch dflt lo hi offs, len)) (h : x.toInt < lo ∨ hi < x.toInt) (ht : (pc : Int) + dflt = (tgt : Int)) (kk : J ω μ d mc ms cs sl tgt L st σ Q) : J ω μ d mc ms cs sl pc L (.int x :: st) σ Q :=
  fun p l e R s m args below meth c H locs ls C hr hl hf => lv_tableOut C.1 C.2.1 hd h ht (kk p l e R s m args below meth c H locs ls C hr hl hf)
theorem j_tabIn {x : Int32} {dflt lo hi off : Int} {offs : Array Int} {len : Nat} (tgt : Nat) (hd : decode μ.2.1 pc = .ok (.tableswitch dflt lo hi offs, len)) (h1 : ¬ x.toInt < lo) (h2 : ¬ hi < x.toInt) (ho : offs[(x.toInt - lo).toNat]? = some off) (ht : (pc : Int) + off = (tgt : Int)) (kk : J ω μ d mc ms cs sl tgt L st σ Q) : J ω μ d mc ms cs sl pc L (.int x :: st) σ Q :=
  fun p l e R s m args below meth c H locs ls C hr hl hf => lv_tableIn C.1 C.2.1 hd h1 h2 ho ht (kk p l e R s m args below meth c H locs ls C hr hl hf)
theorem j_lookup {x : Int32} {dflt off : Int} {ps : Array (Int × Int)} {len : Nat} (tgt : Nat) (hd : decode μ.2.1 pc = .ok (.lookupswitch dflt ps, len)) (hp : (ps.toList.zip (ps.toList.drop 1)).all (fun (a, next) => a.1 < next.1) = true) (ho : Op.lookupswitch.offset ps.toList dflt x.toInt = off) (ht : (pc : Int) + off = (tgt : Int)) (kk : J ω μ d mc ms cs sl tgt L st σ Q) : J ω μ d mc ms cs sl pc L (.int x :: st) σ Q :=
  fun p l e R s m args below meth c H locs ls C hr hl hf => lv_lookup C.1 C.2.1 hd hp ho ht (kk p l e R s m args below meth c H locs ls C hr hl hf)
theorem j_ldc {idx : Nat} {v : Int32} (hc : Cond.constant μ.1.cls idx v ∈ tables_1) (hd : decode μ.2.1 pc = .ok (.ldc idx, 2)) (kk : J ω μ d mc ms cs sl (pc + 2) L (.int v :: st) σ Q) : J ω μ d mc ms cs sl pc L st σ Q :=
  fun p l e R s m args below meth c H locs ls C hr hl hf => lv_ldc C.1 C.2.1 C.2.2.2.2.2.1 (C.2.2.2.2.2.2.2.1 _ (q_in hc)) hd (kk p l e R s m args below meth c H locs ls C hr hl hf)
theorem j_ldc2 {idx : Nat} {v : Int64} (hc : Cond.constantLong μ.1.cls idx v ∈ tables_1) (hd : decode μ.2.1 pc = .ok (.ldc2_w idx, 3)) (kk : J ω μ d mc ms cs sl (pc + 3) L (.long v :: st) σ Q) : J ω μ d mc ms cs sl pc L st σ Q :=
  fun p l e R s m args below meth c H locs ls C hr hl hf => lv_ldc2 C.1 C.2.1 C.2.2.2.2.2.1 (C.2.2.2.2.2.2.2.1 _ (q_in hc)) hd (kk p l e R s m args below meth c H locs ls C hr hl hf)
end MiscJ
section OldJ
variable {ω : q_W} {μ : q_M} {d mc ms cs sl pc : Nat} {L : List (Nat × Value)} {st : List Value} {σ : q_H} {Q : q_R → q_H → Prop}
/-- the word of a static's link -/
def q_gs (own : String) (idx : Nat) (C n d : String) : Prop := Cond.fieldLink own idx C n d ∈ tables_1
theorem q_gets {p : Program} {l : Launch} {e : Env} {R : Room} {s : State} {m : MethodId} {args : Array Value} {below : List Frame} {meth : Method} {c : Code} {H : Heap} {locs : List Loc} {ls : Array Slot} {Qs : State → Prop} {rest : List Value} {idx : Nat} {C n dd : String} {v : Value} (C0 : q_ctx ω μ d mc ms p l e R s m args meth c) (hr : q_rep ω σ H) (hZ : va_Z C n dd v (q_old ω) s (q_H0 ω)) (hl : q_gs μ.1.cls idx C n dd) (hd : decode μ.2.1 pc = .ok (.getstatic idx, 3))
    (kk : W p l e R s m args below meth c H locs cs sl Qs (F0 m (pc + 3) ls (v :: rest))) : W p l e R s m args below meth c H locs cs sl Qs (F0 m pc ls rest) := by
  obtain ⟨cf, kf, fi, f, a, cell, h1, h2, h3, h4, h5, h6, h7, h8⟩ := hZ
  exact W.gets C0.1 C0.2.1 C0.2.2.2.2.2.1 (C0.2.2.2.2.2.2.2.1 _ (q_in hl)) h1 h2 h3 h4 ((hr.2.2.2 a (Nat.not_lt.mp h8)).trans h5) (fun e => by rw [e] at h6; cases h6) h7 rfl hd kk
theorem j_gets {idx : Nat} {C n dd : String} {v : Value} (hm : (C, n, dd, v) ∈ q_stas) (hl : q_gs μ.1.cls idx C n dd) (hd : decode μ.2.1 pc = .ok (.getstatic idx, 3)) (kk : J ω μ d mc ms cs sl (pc + 3) L (v :: st) σ Q) : J ω μ d mc ms cs sl pc L st σ Q :=
  fun p l e R s m args below meth c H locs ls C hr hl' hf => q_gets C hr (C.2.2.2.2.2.2.2.2.2.2.2.2.2.2.2.2.2.2.1 _ hm) hl hd (kk p l e R s m args below meth c H locs ls C hr hl' hf)
theorem j_getsF {idx : Nat} (hl : q_gs μ.1.cls idx "jdk/internal/util/Preconditions" "SIOOBE_FORMATTER" "Ljava/util/function/BiFunction;") (hd : decode μ.2.1 pc = .ok (.getstatic idx, 3)) (kk : ∀ v : Value, v = .null ∨ v = .ref 1000004 → J ω μ d mc ms cs sl (pc + 3) L (v :: st) σ Q) : J ω μ d mc ms cs sl pc L st σ Q := by
  intro p l e R s m args below meth c H locs ls C hr hl' hf
  obtain ⟨v, hZ, hv⟩ := C.2.2.2.2.2.2.2.2.2.2.2.2.2.2.2.2.2.2.2.1
  refine q_gets C hr hZ hl hd ?_
  rcases hv with rfl | rfl
  · exact kk .null (Or.inl rfl) p l e R s m args below meth c H locs ls C hr hl' hf
  · exact kk (.ref 1000004) (Or.inr rfl) p l e R s m args below meth c H locs ls C hr hl' hf
theorem q_oldAt {s : State} {H : Heap} {e : Nat × FieldType × List Int32} (hr : q_rep ω σ H) (hT : va_T e.2.1 (q_od ω e.1) e.2.2.length (fun j => .int (e.2.2.getD j 0)) (q_old ω) s (q_H0 ω)) : va_T e.2.1 (q_od ω e.1) e.2.2.length (fun j => .int (e.2.2.getD j 0)) (q_old ω) s H := by
  obtain ⟨cell, h1, h2, h3, h4, h5, h6, h7⟩ := hT
  exact ⟨cell, (hr.2.2.2 _ (Nat.not_lt.mp h7)).trans h1, h2, h3, h4, h5, h6, h7⟩
theorem j_ialdO {a : Nat} {lst : List Int32} {i : Int32} (j : Nat) (hm : (a, FieldType.int, lst) ∈ q_olds) (ha : 1000000 ≤ a) (hd : decode μ.2.1 pc = .ok (.iaload, 1)) (hi : i = nI j) (hj : j < lst.length) (hn : lst.length < 2147483648) (kk : J ω μ d mc ms cs sl (pc + 1) L (.int (lst.getD j 0) :: st) σ Q) : J ω μ d mc ms cs sl pc L (.int i :: .ref a :: st) σ Q := by
  intro p l e R s m args below meth c H locs ls C hr hl hf
  obtain ⟨cell, h1, h2, h3, h4, h5, h6, h7⟩ := q_oldAt hr (C.2.2.2.2.2.2.2.2.2.2.2.2.2.2.2.2.2.2.2.2.1 _ hm)
  have g0 : ¬ (i < 0 ∨ cell.slots.size ≤ i.toNatClampNeg) ∧ i.toNatClampNeg = j := by
    subst hi
    have e1 : (nI j).toNatClampNeg = j := nI_clamp (by omega)
    refine ⟨?_, e1⟩
    rw [e1]
    have h4' : lst.length ≤ cell.slots.size := h4
    rintro (h | h)
    · exact nI_pos (by omega) h
    · omega
  exact W.iald (v := .int (lst.getD j 0)) C.1 C.2.1 (by rw [q_ad_old ha]; exact h1) h2 h3 g0.1 (by rw [g0.2]; exact h6 j hj) rfl rfl hd (kk p l e R s m args below meth c H locs ls C hr hl hf)
theorem j_baldO {a : Nat} {lst : List Int32} {i : Int32} (j : Nat) (hm : (a, FieldType.byte, lst) ∈ q_olds) (ha : 1000000 ≤ a) (hd : decode μ.2.1 pc = .ok (.baload, 1)) (hi : i = nI j) (hj : j < lst.length) (hn : lst.length < 2147483648) (kk : J ω μ d mc ms cs sl (pc + 1) L (.int (lst.getD j 0) :: st) σ Q) : J ω μ d mc ms cs sl pc L (.int i :: .ref a :: st) σ Q := by
  intro p l e R s m args below meth c H locs ls C hr hl hf
  obtain ⟨cell, h1, h2, h3, h4, h5, h6, h7⟩ := q_oldAt hr (C.2.2.2.2.2.2.2.2.2.2.2.2.2.2.2.2.2.2.2.2.1 _ hm)
  have g0 : ¬ (i < 0 ∨ cell.slots.size ≤ i.toNatClampNeg) ∧ i.toNatClampNeg = j := by
    subst hi
    have e1 : (nI j).toNatClampNeg = j := nI_clamp (by omega)
    refine ⟨?_, e1⟩
    rw [e1]
    have h4' : lst.length ≤ cell.slots.size := h4
    rintro (h | h)
    · exact nI_pos (by omega) h
    · omega
  exact W.bald (v := .int (lst.getD j 0)) C.1 C.2.1 (by rw [q_ad_old ha]; exact h1) h2 h3 g0.1 (by rw [g0.2]; exact h6 j hj) rfl rfl hd (kk p l e R s m args below meth c H locs ls C hr hl hf)
theorem j_alenO {a : Nat} {ty : FieldType} {lst : List Int32} (hm : (a, ty, lst) ∈ q_olds) (ha : 1000000 ≤ a) (hd : decode μ.2.1 pc = .ok (.arraylength, 1)) (kk : J ω μ d mc ms cs sl (pc + 1) L (.int (nI lst.length) :: st) σ Q) : J ω μ d mc ms cs sl pc L (.ref a :: st) σ Q := by
  intro p l e R s m args below meth c H locs ls C hr hl hf
  obtain ⟨cell, h1, h2, h3, h4, h5, h6, h7⟩ := q_oldAt hr (C.2.2.2.2.2.2.2.2.2.2.2.2.2.2.2.2.2.2.2.2.1 _ hm)
  exact W.alen (n := nI lst.length) C.1 C.2.1 (by rw [q_ad_old ha]; exact h1) h2 h5 rfl rfl hd (kk p l e R s m args below meth c H locs ls C hr hl hf)
end OldJ
/-- a call on a string constant -/
def q_CVS (own : String) (idx : Nat) (μ' : q_M) (n : Nat) : Prop := q_CB μ' n ∧ q_lnk own idx μ'.1 ∧ Cond.instanceMethod μ'.1 ∈ tables_1 ∧ Cond.selects "java/lang/String" μ'.1 μ'.1 ∈ lw_tbl
section StrJ
variable {ω : q_W} {μ : q_M} {d mc ms cs sl pc : Nat} {L : List (Nat × Value)} {st : List Value} {σ : q_H} {Q : q_R → q_H → Prop}
theorem j_ldcS {idx : Nat} {tx : String} (i : Nat) (hi : q_strs[i]? = some (μ.1.cls, idx, tx)) (hd : decode μ.2.1 pc = .ok (.ldc idx, 2)) (kk : J ω μ d mc ms cs sl (pc + 2) L (.ref (1000010 + i) :: st) σ Q) : J ω μ d mc ms cs sl pc L st σ Q := by
  intro p l e R s m args below meth c H locs ls C hr hl hf
  have k := kk p l e R s m args below meth c H locs ls C hr hl hf
  obtain ⟨hx, hb, hml, hret, hlocks, hown, hname, hts, hexc, hfl, hroom, htab⟩ := id C
  obtain ⟨a1, -⟩ := htab.2.2.2.2.2.2.2.2.2.2.1 i _ hi
  rw [show List.map (q_cv ω) (Value.ref (1000010 + i) :: st) = .ref (q_od ω (1000010 + i)) :: st.map (q_cv ω) by rw [List.map_cons]; show Value.ref (q_ad ω (1000010 + i)) :: _ = _; rw [q_ad_old (by omega)]] at k
  exact va_ldcS hx hb hown a1 hd k
theorem q_getS {p : Program} {l : Launch} {e : Env} {R : Room} {s : State} {m : MethodId} {args : Array Value} {below : List Frame} {meth : Method} {c : Code} {H : Heap} {locs : List Loc} {ls : Array Slot} {Qs : State → Prop} {rest : List Value} {idx t : Nat} {n dd : String} {v : Value} (C0 : q_ctx ω μ d mc ms p l e R s m args meth c) (hr : q_rep ω σ H) (hZ : va_OF "java/lang/String" n dd v t (q_old ω) s (q_H0 ω)) (hl : Cond.fieldLink μ.1.cls idx "java/lang/String" n dd ∈ tables_1) (hd : decode μ.2.1 pc = .ok (.getfield idx, 3))
    (kk : W p l e R s m args below meth c H locs cs sl Qs (F0 m (pc + 3) ls (v :: rest))) : W p l e R s m args below meth c H locs cs sl Qs (F0 m pc ls (.ref t :: rest)) := by
  obtain ⟨cf, k, fi, f, cell, h1, h2, h3, h4, h5, h6⟩ := hZ
  exact W.getf C0.1 C0.2.1 C0.2.2.2.2.2.1 (C0.2.2.2.2.2.2.2.1 _ (q_in hl)) h1 h2 ((hr.2.2.2 _ (Nat.not_lt.mp h6)).trans h3) h4 (v := v) h5 rfl rfl hd kk
theorem j_getSv {idx i : Nat} {tx : String × Nat × String} (hi : q_strs[i]? = some tx) (hl : Cond.fieldLink μ.1.cls idx "java/lang/String" "value" "[B" ∈ tables_1) (hd : decode μ.2.1 pc = .ok (.getfield idx, 3)) (kk : J ω μ d mc ms cs sl (pc + 3) L (.ref (1000100 + i) :: st) σ Q) : J ω μ d mc ms cs sl pc L (.ref (1000010 + i) :: st) σ Q := by
  intro p l e R s m args below meth c H locs ls C hr hl' hf
  have k := kk p l e R s m args below meth c H locs ls C hr hl' hf
  obtain ⟨hx, hb, hml, hret, hlocks, hown, hname, hts, hexc, hfl, hroom, htab⟩ := id C
  obtain ⟨-, -, -, a4⟩ := htab.2.2.2.2.2.2.2.2.2.2.1 i _ hi
  rw [show List.map (q_cv ω) (Value.ref (1000100 + i) :: st) = .ref (q_od ω (1000100 + i)) :: st.map (q_cv ω) by rw [List.map_cons]; show Value.ref (q_ad ω (1000100 + i)) :: _ = _; rw [q_ad_old (by omega)]] at k
  rw [show List.map (q_cv ω) (Value.ref (1000010 + i) :: st) = .ref (q_od ω (1000010 + i)) :: st.map (q_cv ω) by rw [List.map_cons]; show Value.ref (q_ad ω (1000010 + i)) :: _ = _; rw [q_ad_old (by omega)]]
  exact q_getS C hr a4 hl hd k
theorem j_getSc {idx i : Nat} {tx : String × Nat × String} (hi : q_strs[i]? = some tx) (hl : Cond.fieldLink μ.1.cls idx "java/lang/String" "coder" "B" ∈ tables_1) (hd : decode μ.2.1 pc = .ok (.getfield idx, 3)) (kk : J ω μ d mc ms cs sl (pc + 3) L (.int 0 :: st) σ Q) : J ω μ d mc ms cs sl pc L (.ref (1000010 + i) :: st) σ Q := by
  intro p l e R s m args below meth c H locs ls C hr hl' hf
  have k := kk p l e R s m args below meth c H locs ls C hr hl' hf
  obtain ⟨hx, hb, hml, hret, hlocks, hown, hname, hts, hexc, hfl, hroom, htab⟩ := id C
  obtain ⟨-, -, a3, -⟩ := htab.2.2.2.2.2.2.2.2.2.2.1 i _ hi
  rw [show List.map (q_cv ω) (Value.ref (1000010 + i) :: st) = .ref (q_od ω (1000010 + i)) :: st.map (q_cv ω) by rw [List.map_cons]; show Value.ref (q_ad ω (1000010 + i)) :: _ = _; rw [q_ad_old (by omega)]]
  exact q_getS C hr a3 hl hd k
theorem j_callVS {idx n i : Nat} {tx : String × Nat × String} (μ' : q_M) (as rest : List Value) (d' mc' ms' : Nat) {Q' : q_R → q_H → Prop} (hC : q_CVS μ.1.cls idx μ' n) (hd : decode μ.2.1 pc = .ok (.invokevirtual idx, 3)) (hn : as.length = n) (hst : st = as.reverse ++ .ref (1000010 + i) :: rest) (hi : q_strs[i]? = some tx) (hwt : (rest.map fun v => v.category).sum ≤ 8) (hdd : d' + 1 ≤ d) (hlen : (lg_sl (.ref (1000010 + i) :: as)).length ≤ μ'.2.2.1) (hc : cs + mc' ≤ mc) (hs : sl + ms' ≤ ms)
    (hJ : J ω μ' d' mc' ms' 0 0 0 (lv_args 0 (.ref (1000010 + i) :: as)) [] σ Q') (kr : ∀ v σ', Q' (.inl v) σ' → J ω μ d mc ms (cs + mc') (sl + ms') (pc + 3) L (v.toList ++ rest) σ' Q) (kt : ∀ x σ', Q' (.inr x) σ' → JT ω μ d mc ms (cs + mc') (sl + ms') pc L x σ' Q) : J ω μ d mc ms cs sl pc L st σ Q := by
  intro p l e R s m args below meth c H locs ls C hr hl hf T hT X
  subst hT
  obtain ⟨hx, hb, hml, hret, hlocks, hown, hname, hts, hexc, hfl, hroom, htab⟩ := id C
  obtain ⟨hB, hlk, hinst, hsel⟩ := hC
  obtain ⟨mk, methM, cM, hnamed, hmethM, -, -, -, -, -, -, hsigM⟩ := q_cd_spec hB.1 hts
  obtain ⟨mk', methM', hnamed', hmethM', hstM, habM⟩ := Cond.instanceMethod_spec (hts _ (q_in hinst))
  cases hnamed.symm.trans hnamed'
  cases hmethM.symm.trans hmethM'
  obtain ⟨-, ⟨cell, g1', g3', hcls, g4'⟩, -, -⟩ := htab.2.2.2.2.2.2.2.2.2.2.1 i tx hi
  have g1 : T.heap[q_ad ω (1000010 + i)]? = some cell := by
    rw [q_ad_old (by omega)]
    exact (hr.2.2.2 _ (Nat.not_lt.mp g4')).trans g1'
  have hsel' : (Cond.selects "java/lang/String" μ'.1 μ'.1).before args s = true := hts _ (List.mem_filter.mpr ⟨hsel, rfl⟩)
  obtain ⟨c2, r2, m2, q1, q2, q3, q4, kP, hkP, hkPi⟩ := Cond.selects_spec hsel'
  cases hcls.symm.trans q1
  cases (State.methodFound?_of_named hnamed ⟨hB.2.2.1, hB.2.2.2.1⟩).symm.trans q2
  cases hnamed.symm.trans q3
  have hselP : selectMethod e.platform s.vm cell.cls mk = .method mk := by rw [Launch.admits_selectMethod X.admits]; exact q4
  have hnl : (as.map (q_cv ω)).length = methM.sig.parameters.length := by
    have h9 := hB.2.2.2.2
    rw [hsigM] at h9
    rw [List.length_map, hn]
    exact (Option.some.inj h9).symm
  have hstack : (F0 m pc ls (st.map (q_cv ω))).stack = (as.map (q_cv ω)).reverse ++ .ref (q_ad ω (1000010 + i)) :: rest.map (q_cv ω) := by
    show st.map (q_cv ω) = _
    rw [hst, List.map_append, List.map_reverse]
    rfl
  have hobj : ∀ z, cell.vm ≠ .statics z := fun z h => by rw [h] at g3'; cases g3'
  rcases hlk with hlk | ⟨host, hlk⟩
  · obtain ⟨vm₁, X₁, hstep₁⟩ := X.invokevirtual hx hown (hts _ (q_in hlk)) hnamed hmethM hstM hkP hkPi ⟨hB.2.2.1, hB.2.2.2.1⟩ (a := q_ad ω (1000010 + i)) (cell := cell) g1 hobj hselP hmethM habM hkP hkPi (g := F0 m pc ls (st.map (q_cv ω))) rfl (argsL := as.map (q_cv ω)) (rest := rest.map (q_cv ω)) hnl hstack (by rw [hb]; exact hd)
    exact q_fin (as := .ref (1000010 + i) :: as) C hr hl hf hB hd hwt hdd hlen hc hs hJ kr kt X₁ hnamed hstep₁
  · obtain ⟨vm₁, X₁, hstep₁⟩ := X.invokevirtualNest hx hown (hts _ (q_in hlk)) hnamed hmethM hstM hkP hkPi ⟨hB.2.2.1, hB.2.2.2.1⟩ (a := q_ad ω (1000010 + i)) (cell := cell) g1 hobj hselP hmethM habM hkP hkPi (g := F0 m pc ls (st.map (q_cv ω))) rfl (argsL := as.map (q_cv ω)) (rest := rest.map (q_cv ω)) hnl hstack (by rw [hb]; exact hd)
    exact q_fin (as := .ref (1000010 + i) :: as) C hr hl hf hB hd hwt hdd hlen hc hs hJ kr kt X₁ hnamed hstep₁
end StrJ
