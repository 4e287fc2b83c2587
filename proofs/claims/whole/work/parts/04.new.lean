/-! NEW OBJECTS AND ARRAYS; RETURNS -/
def q_N (own : String) (idx ci N : Nat) : Prop := ∃ (C : String) (T : u_T), q_cls[ci]? = some (C, T, N) ∧ Cond.classLink own idx C ∈ tables_1 ∧ Cond.instantiable C N ∈ tables_1 ∧ Cond.initialized C ∈ tables_1
section NewJ
variable {ω : q_W} {μ : q_M} {d mc ms cs sl pc : Nat} {L : List (Nat × Value)} {st : List Value} {σ : q_H} {Q : q_R → q_H → Prop}
theorem j_new {idx ci N : Nat} (hN : q_N μ.1.cls idx ci N) (hd : decode μ.2.1 pc = .ok (.new idx, 3)) (hc : cs + 1 ≤ mc) (hs : sl + N ≤ ms) (hn : q_n σ + 1 < 1000000)
    (kk : J ω μ d mc ms (cs + 1) (sl + N) (pc + 3) L (.ref (q_n σ + 1) :: st) (q_add σ (1, ci)) Q) : J ω μ d mc ms cs sl pc L st σ Q := by
  intro p l e R s m args below meth c H locs ls C hr hl hf
  obtain ⟨hx, hb, hml, hret, hlocks, hown, hname, hts, hexc, htr, hroom, hK, hbl, hsta⟩ := id C
  obtain ⟨Cn, T, hcl, hlink, hinst, hini⟩ := hN
  obtain ⟨hin, ty, hty, hnm, hdf⟩ := q_cls_ok ci Cn T N hcl
  have hKn := hK.1 ci _ hcl
  refine W.newcK hx hb hown (hts _ (q_in hlink)) (hts _ (q_in hinst)) (hts _ (q_in hini)) rfl hd (Nat.le_trans hc hroom.2.2.1) (Nat.le_trans hs hroom.2.2.2) hKn.2.1 rfl fun H1 kC hkC e1 z1 o1 => ?_
  have ea : q_ad ω (q_n σ + 1) = H.size := by rw [q_ad_new hn, hr.2.1]; omega
  have k := kk p l e R s m args below meth c H1 locs ls C (q_rep_add hbl hr hn ?_ z1 o1) hl hf
  · rw [show List.map (q_cv ω) (Value.ref (q_n σ + 1) :: st) = .ref H.size :: st.map (q_cv ω) by rw [List.map_cons]; show Value.ref (q_ad ω (q_n σ + 1)) :: _ = _; rw [ea]] at k
    exact k
  · unfold q_at
    rw [show q_t (q_add σ (1, ci)) (q_n σ + 1) = (1, ci) from q_row_s _ _ _]
    refine ⟨_, hcl, ?_⟩
    rw [ea]
    refine (u_born ty hts hin hKn hkC e1 hty).to (fun j hj => ?_)
    rw [(hdf j hj).1]
    show q_dv _ = q_fd ω (q_add σ (1, ci)) (T j).2.2.1 (q_n σ + 1) j
    unfold q_dv q_fd
    rw [show q_i (q_add σ (1, ci)) (q_n σ + 1) = fun _ => 0 from q_row_s _ _ _, show q_l (q_add σ (1, ci)) (q_n σ + 1) = fun _ => 0 from q_row_s _ _ _, show q_r (q_add σ (1, ci)) (q_n σ + 1) = fun _ => 0 from q_row_s _ _ _]
    generalize q_k (T j).2.2.1 = kd
    match kd with
    | 0 => rfl
    | 1 => rfl
    | kd + 2 => rfl
theorem q_newarr {p : Program} {l : Launch} {e : Env} {R : Room} {s : State} {m : MethodId} {args : Array Value} {below : List Frame} {meth : Method} {c : Code} {H : Heap} {locs : List Loc} {ls : Array Slot} {atype : ArrayType} {tg : Nat} {i : Int32} (C : q_ctx ω μ d mc ms p l e R s m args meth c) (hr : q_rep ω σ H) (hd : decode μ.2.1 pc = .ok (.newarray atype, 2)) (n : Nat) (hi : i = nI n) (hn31 : n < 67108864)
    (hw : Cond.arrayClass (newarray.typeOf atype) ∈ tables_1) (hcb : componentBytes (newarray.typeOf atype) ≤ 8) (hc : cs + 1 ≤ mc) (hs : sl + n ≤ ms) (hn : q_n σ + 1 < 1000000)
    (hA : ∀ cA : ClassId, s.vm.findClass ("[" ++ (newarray.typeOf atype).toString) = some cA → ∀ H1 : Heap, H1[q_ad ω (q_n σ + 1)]? = some (arrV cA n (fun _ => defaultValue (newarray.typeOf atype))) → q_at ω (q_add σ (tg, n)) H1 (q_n σ + 1))
    {Qs : State → Prop} (kk : ∀ H1 : Heap, q_rep ω (q_add σ (tg, n)) H1 → W p l e R s m args below meth c H1 locs (cs + 1) (sl + n) Qs (F0 m (pc + 2) ls (.ref (q_ad ω (q_n σ + 1)) :: st.map (q_cv ω)))) : W p l e R s m args below meth c H locs cs sl Qs (F0 m pc ls (.int i :: st.map (q_cv ω))) := by
  obtain ⟨hx, hb, hml, hret, hlocks, hown, hname, hts, hexc, htr, hroom, hK, hbl, hsta⟩ := id C
  have ea : q_ad ω (q_n σ + 1) = H.size := by rw [q_ad_new hn, hr.2.1]; omega
  subst hi
  refine va_newaK hx hb (hts _ (q_in hw)) rfl hd rfl (nI_pos (by omega)) (nI_clamp (by omega)) (Nat.le_trans (Nat.mul_le_mul_left n hcb) (by omega)) (Nat.le_trans hc hroom.2.2.1) (Nat.le_trans hs hroom.2.2.2) rfl fun H1 cA e1 z1 o1 hAr hNm => ?_
  have k := kk H1 (q_rep_add hbl hr hn (hA cA hNm H1 (by rw [ea]; exact e1)) z1 o1)
  rw [ea] at k
  exact k
theorem j_newI {i : Int32} (n : Nat) (hd : decode μ.2.1 pc = .ok (.newarray .int, 2)) (hi : i = nI n) (hn31 : n < 67108864) (hc : cs + 1 ≤ mc) (hs : sl + n ≤ ms) (hn : q_n σ + 1 < 1000000)
    (kk : J ω μ d mc ms (cs + 1) (sl + n) (pc + 2) L (.ref (q_n σ + 1) :: st) (q_add σ (2, n)) Q) : J ω μ d mc ms cs sl pc L (.int i :: st) σ Q := by
  intro p l e R s m args below meth c H locs ls C hr hl hf
  refine q_newarr (tg := 2) C hr hd n hi hn31 (by decide +kernel) (by decide) hc hs hn (fun cA h1 H1 h2 => ?_) (fun H1 hr1 => kk p l e R s m args below meth c H1 locs ls C hr1 hl hf)
  have hK := C.2.2.2.2.2.2.2.2.2.2.2.1
  have e1 : ω.2.2.1 2 = cA := Option.some.inj ((hK.2 0 _ rfl).2.symm.trans h1)
  unfold q_at
  rw [show q_t (q_add σ (2, n)) (q_n σ + 1) = (2, n) from q_row_s _ _ _]
  show _ = some (vp_cell _ _)
  rw [h2, e1, vp_cell_i, show q_i (q_add σ (2, n)) (q_n σ + 1) = fun _ => 0 from q_row_s _ _ _]
  rfl
theorem j_newB {i : Int32} (n : Nat) (hd : decode μ.2.1 pc = .ok (.newarray .byte, 2)) (hi : i = nI n) (hn31 : n < 67108864) (hc : cs + 1 ≤ mc) (hs : sl + n ≤ ms) (hn : q_n σ + 1 < 1000000)
    (kk : J ω μ d mc ms (cs + 1) (sl + n) (pc + 2) L (.ref (q_n σ + 1) :: st) (q_add σ (3, n)) Q) : J ω μ d mc ms cs sl pc L (.int i :: st) σ Q := by
  intro p l e R s m args below meth c H locs ls C hr hl hf
  refine q_newarr (tg := 3) C hr hd n hi hn31 (by decide +kernel) (by decide) hc hs hn (fun cA h1 H1 h2 => ?_) (fun H1 hr1 => kk p l e R s m args below meth c H1 locs ls C hr1 hl hf)
  have hK := C.2.2.2.2.2.2.2.2.2.2.2.1
  have e1 : ω.2.2.1 3 = cA := Option.some.inj ((hK.2 1 _ rfl).2.symm.trans h1)
  unfold q_at
  rw [show q_t (q_add σ (3, n)) (q_n σ + 1) = (3, n) from q_row_s _ _ _]
  show _ = some (vp_cell _ _)
  rw [h2, e1, vp_cell_i, show q_i (q_add σ (3, n)) (q_n σ + 1) = fun _ => 0 from q_row_s _ _ _]
  rfl
theorem j_newL {i : Int32} (n : Nat) (hd : decode μ.2.1 pc = .ok (.newarray .long, 2)) (hi : i = nI n) (hn31 : n < 67108864) (hc : cs + 1 ≤ mc) (hs : sl + n ≤ ms) (hn : q_n σ + 1 < 1000000)
    (kk : J ω μ d mc ms (cs + 1) (sl + n) (pc + 2) L (.ref (q_n σ + 1) :: st) (q_add σ (4, n)) Q) : J ω μ d mc ms cs sl pc L (.int i :: st) σ Q := by
  intro p l e R s m args below meth c H locs ls C hr hl hf
  refine q_newarr (tg := 4) C hr hd n hi hn31 (by decide +kernel) (by decide) hc hs hn (fun cA h1 H1 h2 => ?_) (fun H1 hr1 => kk p l e R s m args below meth c H1 locs ls C hr1 hl hf)
  have hK := C.2.2.2.2.2.2.2.2.2.2.2.1
  have e1 : ω.2.2.1 4 = cA := Option.some.inj ((hK.2 2 _ rfl).2.symm.trans h1)
  unfold q_at
  rw [show q_t (q_add σ (4, n)) (q_n σ + 1) = (4, n) from q_row_s _ _ _]
  show _ = some (vp_cell _ _)
  rw [h2, e1, vp_cell_l, show q_l (q_add σ (4, n)) (q_n σ + 1) = fun _ => 0 from q_row_s _ _ _]
  rfl
theorem j_widen {k n : Nat} (h1 : cs ≤ k) (h2 : sl ≤ n) (kk : J ω μ d mc ms k n pc L st σ Q) : J ω μ d mc ms cs sl pc L st σ Q :=
  fun p l e R s m args below meth c H locs ls C hr hl hf => W.widen h1 h2 (kk p l e R s m args below meth c H locs ls C hr hl hf)
theorem j_iret {v : Int32} (hd : decode μ.2.1 pc = .ok (.ireturn, 1)) (hr0 : μ.2.2.2.1 = some .int) (hc : cs ≤ mc) (hs : sl ≤ ms) (hQ : Q (.inl (some (.int v))) σ) : J ω μ d mc ms cs sl pc L [.int v] σ Q := by
  intro p l e R s m args below meth c H locs ls C hr hl hf
  obtain ⟨hx, hb, hml, hret, hlocks, hown, hname, hts, hexc, htr, hroom, hK, hbl, hsta⟩ := id C
  refine W.widen hc hs ?_
  intro T hT X
  have hr1 : meth.sig.returnType = some .int := hret.trans hr0
  obtain ⟨fs, hret', hrun, hended, hW, hframe⟩ := X.leave (v := some (.int v)) (hlocks := hlocks) (fun h => by rw [hr1] at h; cases h)
  have hmeth' : T.vm.method? m = some meth := X.method'
  refine ⟨T.setFrames fs, ?_, .inl (some (.int v)), σ, locs, hrun, hended, hQ, ?_, hW, hframe, hf⟩
  · jvm_step X.here [X.here.top, hx, hb, hd, hmeth', hr1, narrow, q_cv]
    (try refine ⟨rfl, ?_⟩); (try refine ⟨rfl, ?_⟩)
    first | (intro acts; rw [hret' _ acts rfl rfl rfl]) | rw [hret' _ _ rfl rfl rfl]
    exact Steps.refl _
  · show q_rep ω σ T.heap
    rw [hT]; exact hr
theorem j_zret {v : Int32} (hd : decode μ.2.1 pc = .ok (.ireturn, 1)) (hr0 : μ.2.2.2.1 = some .boolean) (hv : v = 0 ∨ v = 1) (hc : cs ≤ mc) (hs : sl ≤ ms) (hQ : Q (.inl (some (.int v))) σ) : J ω μ d mc ms cs sl pc L [.int v] σ Q := by
  intro p l e R s m args below meth c H locs ls C hr hl hf
  obtain ⟨hx, hb, hml, hret, hlocks, hown, hname, hts, hexc, htr, hroom, hK, hbl, hsta⟩ := id C
  refine W.widen hc hs ?_
  intro T hT X
  have hn : narrow .boolean (.int v) = .int v := by rcases hv with rfl | rfl <;> rfl
  have hr1 : meth.sig.returnType = some .boolean := hret.trans hr0
  obtain ⟨fs, hret', hrun, hended, hW, hframe⟩ := X.leave (v := some (.int v)) (hlocks := hlocks) (fun h => by rw [hr1] at h; cases h)
  have hmeth' : T.vm.method? m = some meth := X.method'
  refine ⟨T.setFrames fs, ?_, .inl (some (.int v)), σ, locs, hrun, hended, hQ, ?_, hW, hframe, hf⟩
  · jvm_step X.here [X.here.top, hx, hb, hd, hmeth', hr1, hn, q_cv]
    (try refine ⟨rfl, ?_⟩); (try refine ⟨rfl, ?_⟩)
    first | (intro acts; rw [hret' _ acts rfl rfl rfl]) | rw [hret' _ _ rfl rfl rfl]
    exact Steps.refl _
  · show q_rep ω σ T.heap
    rw [hT]; exact hr
theorem j_lret {v : Int64} (hd : decode μ.2.1 pc = .ok (.lreturn, 1)) (hr0 : μ.2.2.2.1 = some .long) (hc : cs ≤ mc) (hs : sl ≤ ms) (hQ : Q (.inl (some (.long v))) σ) : J ω μ d mc ms cs sl pc L [.long v] σ Q := by
  intro p l e R s m args below meth c H locs ls C hr hl hf
  obtain ⟨hx, hb, hml, hret, hlocks, hown, hname, hts, hexc, htr, hroom, hK, hbl, hsta⟩ := id C
  refine W.widen hc hs ?_
  intro T hT X
  have hr1 : meth.sig.returnType = some .long := hret.trans hr0
  obtain ⟨fs, hret', hrun, hended, hW, hframe⟩ := X.leave (v := some (.long v)) (hlocks := hlocks) (fun h => by rw [hr1] at h; cases h)
  have hmeth' : T.vm.method? m = some meth := X.method'
  refine ⟨T.setFrames fs, ?_, .inl (some (.long v)), σ, locs, hrun, hended, hQ, ?_, hW, hframe, hf⟩
  · jvm_step X.here [X.here.top, hx, hb, hd, hmeth', hr1, narrow, q_cv]
    (try refine ⟨rfl, ?_⟩); (try refine ⟨rfl, ?_⟩)
    first | (intro acts; rw [hret' _ acts rfl rfl rfl]) | rw [hret' _ _ rfl rfl rfl]
    exact Steps.refl _
  · show q_rep ω σ T.heap
    rw [hT]; exact hr
theorem j_vret (hd : decode μ.2.1 pc = .ok (.return_, 1)) (hr0 : μ.2.2.2.1 = none) (hc : cs ≤ mc) (hs : sl ≤ ms) (hQ : Q (.inl none) σ) : J ω μ d mc ms cs sl pc L [] σ Q := by
  intro p l e R s m args below meth c H locs ls C hr hl hf
  obtain ⟨hx, hb, hml, hret, hlocks, hown, hname, hts, hexc, htr, hroom, hK, hbl, hsta⟩ := id C
  refine W.widen hc hs ?_
  intro T hT X
  have hr1 : meth.sig.returnType = none := hret.trans hr0
  obtain ⟨fs, hret', hrun, hended, hW, hframe⟩ := X.leave (v := none) (hlocks := hlocks) (fun _ => rfl)
  have hmeth' : T.vm.method? m = some meth := X.method'
  refine ⟨T.setFrames fs, ?_, .inl none, σ, locs, hrun, hended, hQ, ?_, hW, hframe, hf⟩
  · jvm_step X.here [X.here.top, hx, hb, hd, hmeth', hr1]
    (try refine ⟨rfl, ?_⟩); (try refine ⟨rfl, ?_⟩)
    first | (intro acts; rw [hret' _ acts rfl rfl rfl]) | rw [hret' _ _ rfl rfl rfl]
    exact Steps.refl _
  · show q_rep ω σ T.heap
    rw [hT]; exact hr
theorem j_aret {v : Nat} {rt : FieldType} (hd : decode μ.2.1 pc = .ok (.areturn, 1)) (hr0 : μ.2.2.2.1 = some rt) (hrt : (∃ n, rt = .object n) ∨ ∃ t, rt = .array t) (hc : cs ≤ mc) (hs : sl ≤ ms) (hQ : Q (.inl (some (.ref v))) σ) : J ω μ d mc ms cs sl pc L [.ref v] σ Q := by
  intro p l e R s m args below meth c H locs ls C hr hl hf
  obtain ⟨hx, hb, hml, hret, hlocks, hown, hname, hts, hexc, htr, hroom, hK, hbl, hsta⟩ := id C
  refine W.widen hc hs ?_
  intro T hT X
  have hr1 : meth.sig.returnType = some rt := hret.trans hr0
  obtain ⟨fs, hret', hrun, hended, hW, hframe⟩ := X.leave (v := some (.ref (q_ad ω v))) (hlocks := hlocks) (fun h => by rw [hr1] at h; cases h)
  have hmeth' : T.vm.method? m = some meth := X.method'
  refine ⟨T.setFrames fs, ?_, .inl (some (.ref v)), σ, locs, hrun, hended, hQ, ?_, hW, hframe, hf⟩
  · rcases hrt with ⟨n, rfl⟩ | ⟨t, rfl⟩ <;>
      (jvm_step X.here [X.here.top, hx, hb, hd, hmeth', hr1, q_cv]
       (try refine ⟨rfl, ?_⟩); (try refine ⟨rfl, ?_⟩)
       first | (intro acts; rw [hret' _ acts rfl rfl rfl]) | rw [hret' _ _ rfl rfl rfl]
       exact Steps.refl _)
  · show q_rep ω σ T.heap
    rw [hT]; exact hr
end NewJ
