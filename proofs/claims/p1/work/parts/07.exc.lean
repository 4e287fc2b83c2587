/-! EXCEPTIONS WITHOUT A MESSAGE -/
def q_chain : List String := ["java/lang/RuntimeException", "java/lang/Exception"]
/-- the words that a constructor of an exception X stands on, but the statics' -/
def q_xw (own : String) (ic : Nat) (X : String) : List Cond := Bundle.chain0Atoms X q_chain ++
  [.methodLink own ic (Bundle.init0 X), .instantiable X 6, .castable X X, .selects X Bundle.tFill0 Bundle.tFill0, .selects X Bundle.tFill Bundle.tFill,
   .lays X Bundle.tN "cause" "Ljava/lang/Throwable;", .lays X Bundle.tN "stackTrace" Bundle.steD, .lays X Bundle.tN "suppressedExceptions" Bundle.listD,
   .fieldLink Bundle.tN 198 Bundle.tN "backtrace" "Ljava/lang/Object;", .lays Bundle.tN Bundle.tN "backtrace" "Ljava/lang/Object;", .lays X Bundle.tN "backtrace" "Ljava/lang/Object;", .initialized X]
def q_X (own : String) (ic : Nat) (X : String) : Prop := Bundle.fit X = true ∧ ∀ w ∈ q_xw own ic X, w ∈ tables_1 ∧ q_gw w = true
theorem q_thr_in : ∀ w ∈ Bundle.throwableAtoms, w ∈ tables_1 ∧ (q_gw w = true ∨ w = .laysStatic Bundle.tN "UNASSIGNED_STACK" Bundle.steD ∨ w = .laysStatic Bundle.tN "SUPPRESSED_SENTINEL" Bundle.listD) := by decide +kernel
theorem q_thr_all {ω : q_W} {args : Array Value} {s : State} (hts : ∀ w ∈ q_tb, w.before args s = true) (hs : q_sta ω s) : ∀ w ∈ Bundle.throwableAtoms, w.before args s = true := by
  have ls : ∀ {C n d : String}, q_ZL ω C n d s → (Cond.laysStatic C n d).before args s = true := by
    intro C n d h
    obtain ⟨c, k, i, f, a, cell, v, h1, h2, h3, h4, h5, h6, h7, h8, h9, h10, h11⟩ := h
    exact Cond.laysStatic_of h1 h2 h3 h4 ((hs.1 a h10).trans h5) h6 h7 h8 h9
  intro w hw
  obtain ⟨h1, h2 | h2 | h2⟩ := q_thr_in w hw
  · exact hts _ (q_in h1 h2)
  · rw [h2]; exact ls hs.2.1
  · rw [h2]; exact ls hs.2.2.1
set_option maxHeartbeats 4000000 in
theorem q_exInit {p : Program} {l : Launch} {e : Env} {R : Room} {s : State} {m : MethodId} {args : Array Value} {below : List Frame} {meth : Method} {c : Code} {W : State} {locs : List Loc} {cs sl pc : Nat} {ls : Array Slot} {ω : q_W} {μ : q_M} {d mc ms ic a : Nat} {X : String} {rest : List Value} {cX : ClassId} {kX : Class}
    (S : Stand p l e R s m args below meth c W locs cs sl) (C : q_ctx ω μ d mc ms p l e R s m args meth c) (hX : q_X μ.1.cls ic X) (hd : decode μ.2.1 pc = .ok (.invokespecial ic, 3)) (hls : ls.size = μ.2.2.1) (hold : ∀ q, q ≤ ω.1 → W.heap[q]? = (q_H0 ω)[q]?) (ha : ω.1 < a)
    (hfX : s.vm.findClass X = some cX) (hkX : s.vm.classes[cX]? = some kX) (hcell : W.heap[a]? = some (freshCell cX kX)) (hdd : 6 ≤ d) (hwt : ((Value.ref a :: rest).map fun v => v.category).sum ≤ 8) :
    ∃ (vm' : Vm) (cell' : Cell) (L : List Loc), Stand p l e R s m args below meth c ((W.setVm vm').setCell a cell') (locs ++ L) cs sl ∧ (∀ q ∈ L, q.base = a) ∧ cell'.cls = cX ∧ cell'.vm = .none ∧
      ∀ target, Steps p.tables e below (((W.setVm vm').setCell a cell').setTop (F0 m (pc + 3) ls (.ref a :: rest))) target → Steps p.tables e below (W.setTop (F0 m pc ls (.ref a :: .ref a :: rest))) target := by
  obtain ⟨hx, hb, hml, hret, hlocks, hown, hname, hts, hexc, hfl, hroom, hK, hbl, hsta⟩ := id C
  obtain ⟨hfit, hw⟩ := hX
  have hall : ∀ w ∈ q_xw μ.1.cls ic X, w.before args s = true := fun w h => hts _ (q_in (hw w h).1 (hw w h).2)
  have howns : e.platform.frameOwnsMonitors = true := by rw [S.admits.platform]
  have hfin : e.platform.finalization = false := by rw [S.admits.platform]
  have hpl : e.platform.magicAccessors = ({} : Platform).magicAccessors := by rw [S.admits.platform]
  obtain ⟨T, Z, LT, LZ, Y⟩ := ThrowableC.of_atoms (args := args) howns hfin hpl (q_thr_all hts hsta)
  obtain ⟨P1, Ps, hlen, L1, hL, hP1m, hlink1, hlink⟩ := Bundle.chain0 (args := args) hpl Y.init0 q_chain X hfit (by decide +kernel) (fun w h => hall w (List.mem_append_left _ h))
  have hfound : s.vm.findClass X = some P1.m.cls := findClass_of_methodNamed hP1m
  cases Option.some.inj (hfX.symm.trans hfound)
  have hin : ∀ {w : Cond}, w ∈ q_xw μ.1.cls ic X → w.before args s = true := fun h => hall _ h
  obtain ⟨c1, k1, hc1, hk, hord, -, -, hn6⟩ := Cond.instantiable_spec (hin (w := .instantiable X 6) (by simp [q_xw]))
  cases Option.some.inj (hc1.symm.trans hfound)
  cases Option.some.inj (hkX.symm.trans hk)
  have hsel : ∀ {y : MethodName} {my : MethodId}, s.methodNamed? y = some my → (y.cls ≠ "java/lang/invoke/MethodHandle" ∧ y.cls ≠ "java/lang/invoke/VarHandle") → (Cond.selects X y y).before args s = true → selectMethod e.platform s.vm P1.m.cls my = .method my := by
    intro y my hy hmh hs
    obtain ⟨c2, r2, m2, q1, q2, q3, q4, -⟩ := Cond.selects_spec hs
    cases Option.some.inj (q1.symm.trans hfound)
    cases Option.some.inj (q2.symm.trans (State.methodFound?_of_named hy hmh))
    cases Option.some.inj (q3.symm.trans hy)
    rw [Launch.admits_selectMethod S.admits]; exact q4
  have hsel0 := hsel Y.fill0 (by decide) (hin (by simp [q_xw]))
  have hselF := hsel Y.fill (by decide) (hin (by simp [q_xw]))
  obtain ⟨z1, z2, z3, z4, aU, cellU, u0, zU1, zU2, zU3, zU4, zU5, zU6, zU7, zU8, zU9, zU10, zU11⟩ := hsta.2.1
  obtain ⟨y1, y2, y3, y4, aV, cellV, sen, zV1, zV2, zV3, zV4, zV5, zV6, zV7, zV8, zV9, zV10, zV11⟩ := hsta.2.2.1
  cases Y.unassigned.symm.trans zU2
  cases Y.sentinel.symm.trans zV2
  cases LT.statics.symm.trans zU4
  cases LT.statics.symm.trans zV4
  cases zU5.symm.trans zV5
  have hcS : W.heap[T.aS]? = some cellU := (hold _ zU10).trans zU5
  obtain ⟨ci198, i198, fB, hk198, hg198, ha198, hsB, -, hnB, htB, hffB⟩ := Cond.ownField (t := .object "java/lang/Object") Y.found LT.cls (by decide +kernel) (hin (w := .fieldLink Bundle.tN 198 Bundle.tN "backtrace" "Ljava/lang/Object;") (by simp [q_xw])) (hin (w := .lays Bundle.tN Bundle.tN "backtrace" "Ljava/lang/Object;") (by simp [q_xw])) e.platform hpl
  obtain ⟨tyC, dC, hdC, hdnC⟩ := Cond.laysAt hfound hk Y.cause (hin (w := .lays X Bundle.tN "cause" "Ljava/lang/Throwable;") (by simp [q_xw]))
  obtain ⟨tyS, dS, hdS, hdnS⟩ := Cond.laysAt hfound hk Y.stack (hin (w := .lays X Bundle.tN "stackTrace" Bundle.steD) (by simp [q_xw]))
  obtain ⟨tyP, dP, hdP, hdnP⟩ := Cond.laysAt hfound hk Y.supp (hin (w := .lays X Bundle.tN "suppressedExceptions" Bundle.listD) (by simp [q_xw]))
  obtain ⟨tyB, dB, hdB, hdnB⟩ := Cond.laysAt hfound hk hffB (hin (w := .lays X Bundle.tN "backtrace" "Ljava/lang/Object;") (by simp [q_xw]))
  have bC := Cond.laysApart hdB hdC hdnB hdnC (by rw [hnB, Y.causeName]; decide)
  have bS := Cond.laysApart hdB hdS hdnB hdnS (by rw [hnB, Y.stackName]; decide)
  have bP := Cond.laysApart hdB hdP hdnB hdnP (by rw [hnB, Y.suppName]; decide)
  have hskip : SkipFacts T e.platform s (fun u => u) u0 ((preparedCellV T.toThrowableT (freshCell P1.m.cls kX) a u0 sen).withEntry W.cur) :=
    ⟨{ ci198 := ci198, i198 := i198, fBack := fB }, ⟨hk198, hg198, ha198, hsB⟩, by
      have h9 := fresh_default (c := P1.m.cls) tyB
      rw [htB] at h9
      simpa [preparedCellV, Cell.setSlot, Cell.withEntry, Array.getElem?_setIfInBounds, bC, bS, bP, bC.symm, bS.symm, bP.symm, defaultValue] using h9, fun _ _ => rfl⟩
  have hroom2 := hroom.2.1
  have hmr : 2 * (F0 m pc ls (.ref a :: rest)).monitorRoom + ((Value.ref a :: rest).map fun v => v.category).sum ≤ 8 := lv_room hwt
  obtain ⟨tm, methC, cdC, kC, vm₁, hnC, -, -, -, -, -, -, -, hW₁, st1⟩ := Steps.initCold (tb := p.tables) (e := e) (below := below) (s := s) (U := W) S.here hx S.warmed hpl hown (t := Bundle.init0 X) rfl rfl (Bundle.fit_spec hfit).2
    (hin (w := .methodLink μ.1.cls ic (Bundle.init0 X)) (by simp [q_xw])) (hin (w := .instanceMethod (Bundle.init0 X)) (by simp [q_xw, q_chain, Bundle.chain0Atoms, Bundle.passAtoms])) (bytes := Bundle.five) (maxL := 1) (hin (w := .code (Bundle.init0 X) Bundle.five 1 none) (by simp [q_xw, q_chain, Bundle.chain0Atoms, Bundle.passAtoms]))
    (f := F0 m pc ls (.ref a :: .ref a :: rest)) rfl (a := a) (rest := .ref a :: rest) rfl (by rw [hb]; exact hd)
  cases Option.some.inj (hnC.symm.trans hP1m)
  obtain ⟨vm₂, X₂, st2⟩ := (S.noted hW₁).ctorPlainOffV hx (g := F0 m pc ls (.ref a :: rest)) rfl (by rw [hml]; exact hls) T LT Z LZ (P1 :: Ps)
    (fun P hP => by rcases List.mem_cons.mp hP with rfl | hP; exact L1; exact hL P hP) ⟨hlink1, hlink⟩ (u0 := u0) (sen := sen) (self := a) (cell := freshCell P1.m.cls kX) (cellS := cellU)
    hcell (fun _ => by simp) (by simp) rfl rfl hsel0 hselF hcS (Nat.ne_of_lt (Nat.lt_of_le_of_lt zU10 ha)) (fun h => by rw [h] at zU6; cases zU6) zU11 zV11
    (Takes.of_laid hk hord tyC (by rw [Y.causeType]; rfl)) (Takes.of_laid hk hord tyS (by rw [Y.stackType]; exact fits_refV_array _ u0)) (Takes.of_laid hk hord tyP (by rw [Y.suppType]; exact fits_refV_object _ sen)) Y.objLocals hskip (hfl e S.admits) [] (by rw [hb]; exact hd)
    (by simp only [List.length_cons, hlen]; have h9 := hroom.1; show 2 + 1 + 2 < R.frames; omega) (by simp only [List.length_cons, hlen]; show _ + (13 * (2 + 1) + 41) ≤ R.locals; omega)
  refine ⟨vm₂, _, _, X₂, ?_, ?_, rfl, fun target ht => st1 _ fun acts => ?_⟩
  · intro q hq
    simp only [List.mem_cons, List.not_mem_nil, or_false] at hq
    rcases hq with rfl | rfl | rfl | rfl <;> rfl
  · rfl
  · rw [doInvoke_state]
    exact st2 _ ht
section ExcJ
variable {ω : q_W} {μ : q_M} {d mc ms cs sl pc : Nat} {L : List (Nat × Value)} {st : List Value} {σ : q_H} {Q : q_R → q_H → Prop}
/-- a new exception of the class with number k among q_xn: new, dup, its constructor -/
theorem j_newEx {idx ic k : Nat} {X : String} (hk : q_xn[k]? = some X) (hX : q_X μ.1.cls ic X) (hcl : Cond.classLink μ.1.cls idx X ∈ tables_1) (hd0 : decode μ.2.1 pc = .ok (.new idx, 3)) (hd3 : decode μ.2.1 (pc + 3) = .ok (.dup, 1)) (hd4 : decode μ.2.1 (pc + 4) = .ok (.invokespecial ic, 3))
    (hc : cs + 1 ≤ mc) (hs : sl + 6 ≤ ms) (hn : q_n σ + 1 < 1000000) (hdd : 6 ≤ d) (hwt : (st.map fun v => v.category).sum ≤ 7)
    (kk : J ω μ d mc ms (cs + 1) (sl + 6) (pc + 7) L (.ref (q_n σ + 1) :: st) (q_add σ (5, k)) Q) : J ω μ d mc ms cs sl pc L st σ Q := by
  intro p l e R s m args below meth c H locs ls C hr hl hf
  obtain ⟨hx, hb, hml, hret, hlocks, hown, hname, hts, hexc, hfl, hroom, hK, hbl, hsta⟩ := id C
  have hin : ∀ {w : Cond}, w ∈ q_xw μ.1.cls ic X → w.before args s = true := fun h => hts _ (q_in (hX.2 _ h).1 (hX.2 _ h).2)
  have hinst := hin (w := .instantiable X 6) (by simp [q_xw])
  obtain ⟨cX, kX, hfX, hkX, hord, -⟩ := Cond.instantiable_spec hinst
  have ea : q_ad ω (q_n σ + 1) = H.size := by rw [q_ad_new hn, hr.2.1]; omega
  refine W.newcK hx hb hown (hts _ (q_in hcl)) hinst (hin (w := .initialized X) (by simp [q_xw])) rfl hd0 (Nat.le_trans hc hroom.2.2.1) (Nat.le_trans hs hroom.2.2.2) hfX rfl fun H1 kC hkC e1 z1 o1 => ?_
  cases hkX.symm.trans hkC
  refine lv_dup hx hb hd3 rfl ?_
  intro W hW S
  have hold : ∀ q, q ≤ ω.1 → W.heap[q]? = (q_H0 ω)[q]? := fun q hq => by rw [hW]; exact (o1 q (by rw [hr.2.1]; omega)).trans (hr.2.2.2 q hq)
  have hwt2 : ((Value.ref H.size :: st.map (q_cv ω)).map fun v => v.category).sum ≤ 8 := by
    rw [List.map_cons, List.map_map, show ((fun v => v.category) ∘ q_cv ω) = (fun v : Value => v.category) from funext (q_cat ω), List.sum_cons]
    show 1 + _ ≤ 8
    omega
  obtain ⟨vm', cell', L1, X2, hL1, hc1, hc2, hst⟩ := q_exInit (ls := ls) (rest := st.map (q_cv ω)) S C hX hd4 hl.1 hold (a := H.size) (by rw [hr.2.1]; omega) hfX hkX (by rw [hW]; exact e1) hdd hwt2
  have hlt : H.size < (W.setVm vm').heap.size := by show H.size < W.heap.size; rw [hW, z1]; omega
  have hat : q_at ω (q_add σ (5, k)) ((W.setVm vm').setCell H.size cell').heap (q_n σ + 1) := by
    unfold q_at
    rw [show q_t (q_add σ (5, k)) (q_n σ + 1) = (5, k) from q_row_s _ _ _]
    refine ⟨cell', ?_, ?_, hc2⟩
    · rw [ea]; exact heapAt_setCell_self _ hlt
    · rw [hc1]; exact Option.some.inj (hfX.symm.trans (hsta.2.2.2.1 k X hk))
  have hrep : q_rep ω (q_add σ (5, k)) ((W.setVm vm').setCell H.size cell').heap := by
    refine q_rep_add hbl hr hn hat ?_ ?_
    · rw [size_setCell]; show W.heap.size = _; rw [hW, z1]
    · intro q hq
      rw [heapAt_setCell_ne _ (Nat.ne_of_gt hq)]
      show W.heap[q]? = _
      rw [hW]; exact o1 q hq
  have hf' : ∀ q ∈ locs ++ L1, ω.1 < q.base := by
    intro q hq
    rcases List.mem_append.mp hq with h | h
    · exact hf q h
    · rw [hL1 q h, hr.2.1]; omega
  have k1 := kk p l e R s m args below meth c _ (locs ++ L1) ls C hrep hl hf' _ rfl X2
  rw [show List.map (q_cv ω) (Value.ref (q_n σ + 1) :: st) = .ref H.size :: st.map (q_cv ω) by rw [List.map_cons]; show Value.ref (q_ad ω (q_n σ + 1)) :: _ = _; rw [ea]] at k1
  obtain ⟨t, a1, b1⟩ := k1
  exact ⟨t, hst t a1, b1⟩
/-- athrow: the exception is thrown at the method itself -/
theorem j_athrow {x : Nat} (hd : decode μ.2.1 pc = .ok (.athrow, 1)) (kk : JT ω μ d mc ms cs sl pc L x σ Q) : J ω μ d mc ms cs sl pc L (.ref x :: st) σ Q := by
  intro p l e R s m args below meth c H locs ls C hr hl hf T hT X
  subst hT
  obtain ⟨hx, hb, -⟩ := id C
  obtain ⟨t, a1, b1⟩ := kk p l e R s m args below meth c T locs ls (st.map (q_cv ω)) C hr hl hf X
  refine ⟨t, ?_, b1⟩
  show Steps p.tables e below (T.setTop (F0 m pc ls (.ref (q_ad ω x) :: st.map (q_cv ω)))) t
  jvm_step X.here [hx, hb, hd, athrow.wp_sem]
  exact a1
/-- a row of the handlers' table that the search passes, or that it takes -/
def q_pass (ω : q_W) (own : String) (pc k : Nat) (h : Nat × Nat × Nat × Nat) : Prop := ¬ (h.1 ≤ pc ∧ pc < h.2.1) ∨ (h.2.2.2 ≠ 0 ∧ ∃ N X : String, q_xn[k]? = some X ∧ Cond.classLink own h.2.2.2 N ∈ tables_1 ∧ ∀ (args : Array Value) (s : State), (∀ w ∈ q_tb, w.before args s = true) → q_tab ω s → ∃ cN, s.vm.findClass N = some cN ∧ s.vm.assignable ((q_xc ω) k) cN = false)
def q_take (ω : q_W) (own : String) (pc k : Nat) (h : Nat × Nat × Nat × Nat) : Prop := (h.1 ≤ pc ∧ pc < h.2.1) ∧ h.2.2.2 ≠ 0 ∧ ∃ N X : String, q_xn[k]? = some X ∧ Cond.classLink own h.2.2.2 N ∈ tables_1 ∧ Cond.castable X N ∈ tables_1
theorem q_go {e : Env} {s : State} {m : MethodId} {args : Array Value} {ω : q_W} {μ : q_M} {pc k a : Nat} {ls : Array Slot} {st : List Value} {cell : Cell} (hpl : e.platform.magicAccessors = ({} : Platform).magicAccessors) (hown : s.vm.findClass μ.1.cls = some m.cls) (hts : ∀ w ∈ q_tb, w.before args s = true) (htab : q_tab ω s) (hcl : cell.cls = (q_xc ω) k) (hvm : cell.vm = .none) {X : String} (hX : q_xn[k]? = some X)
    (h : Nat × Nat × Nat × Nat) (rest : List ExceptionTableEntry) (htk : q_take ω μ.1.cls pc k h) : ∀ (pre : List (Nat × Nat × Nat × Nat)), (∀ x ∈ pre, q_pass ω μ.1.cls pc k x) → ∀ S : State, s.WarmedH S.vm → S.heap[a]? = some cell →
      ∃ vm', s.WarmedH vm' ∧ ∀ (Q : Handler → Pre) (E : CtlPost) (d : Bool) (acts : List Action), wp (findHandler.go (F0 m pc ls st) a (tableOf (pre ++ [h]) ++ rest)) Q E e d acts S ↔ Q (.found h.2.2.1) d acts (S.setVm vm') := by
  have hobj : ∀ k, cell.vm ≠ .statics k := fun z h => by rw [hvm] at h; cases h
  have hkc : ∃ kk, s.vm.classes[cell.cls]? = some kk := by
    rw [hcl]
    exact Vm.classAt_of_findClass (htab.2.2.2.2.2.1 k X hX)
  intro pre
  induction pre with
  | nil =>
    intro _ S hW hcell
    obtain ⟨⟨hc1, hc2⟩, h0, N, X', hX', hlk, hcast⟩ := htk
    cases hX.symm.trans hX'
    obtain ⟨c', hc', hl⟩ := Cond.classLink_spec hown (hts _ (q_in hlk)) e.platform hpl
    obtain ⟨c3, c4, hc3, hc4, hasg⟩ := Cond.castable_spec (hts _ (q_in hcast))
    cases hc4.symm.trans hc'
    cases hc3.symm.trans (htab.2.2.2.2.2.1 k X hX)
    obtain ⟨dk, _, _, kt, hd, _, _, _, _, hkt, _, hopen⟩ := hl.here
    have hl' := hW.classLinks hl
    obtain ⟨ha, ht⟩ := (resolveClass_links e.toSetting hl').op (op := VmOp.resolveClass m.cls h.2.2.2) rfl
    have hal : S.vm.Alike (S.vm.noted m.cls h.2.2.2 (.cls c')) := (Vm.Alike.refl S.vm).noted _ _ _
    obtain ⟨k1, hk1⟩ := hkc
    obtain ⟨k1', hk1', -⟩ := hW.alike.2.2 _ _ hk1
    obtain ⟨k1'', hk1'', -⟩ := hal.2.2 _ _ hk1'
    obtain ⟨k2', hk2', -⟩ := hW.alike.2.2 _ _ hkt
    obtain ⟨k2'', hk2'', -⟩ := hal.2.2 _ _ hk2'
    have hfit' : (S.vm.noted m.cls h.2.2.2 (.cls c')).assignable cell.cls c' = true := by rw [hal.assignable, hW.alike.assignable, hcl]; exact hasg
    refine ⟨_, hW.noted hd hopen (State.rightAt_cls hl), fun Q E d acts => ?_⟩
    simp [tableOf, findHandler.go, hc1, hc2, h0, ha, ht, hcell, hobj, hk1'', hk2'', hfit', VmOp.dirties, VmOp.acts]
  | cons y ys ih =>
    intro hp S hW hcell
    have hrest : ∀ z ∈ ys, q_pass ω μ.1.cls pc k z := fun z hz => hp z (List.mem_cons_of_mem _ hz)
    rcases hp y List.mem_cons_self with hno | ⟨h0, N, X', hX', hlk, hasg⟩
    · obtain ⟨vm', hW', hq⟩ := ih hrest S hW hcell
      refine ⟨vm', hW', fun Q E d acts => ?_⟩
      have hcov : covers (⟨y.1, y.2.1, y.2.2.1, y.2.2.2⟩ : ExceptionTableEntry) (F0 m pc ls st).pc = false := by
        simp only [covers, Bool.and_eq_false_iff, decide_eq_false_iff_not]
        by_cases h1 : y.1 ≤ pc
        · exact Or.inr (fun h2 => hno ⟨h1, h2⟩)
        · exact Or.inl h1
      show wp (findHandler.go (F0 m pc ls st) a (_ :: (tableOf (ys ++ [h]) ++ rest))) Q E e d acts S ↔ _
      rw [W.findHandler_go_skip hcov]
      exact hq Q E d acts
    · by_cases hcv : y.1 ≤ pc ∧ pc < y.2.1
      · obtain ⟨cN, hcN, hno⟩ := hasg args s hts htab
        obtain ⟨c', hc', hl⟩ := Cond.classLink_spec hown (hts _ (q_in hlk)) e.platform hpl
        cases hcN.symm.trans hc'
        obtain ⟨dk, _, _, kt, hd, _, _, _, _, hkt, _, hopen⟩ := hl.here
        have hl' := hW.classLinks hl
        obtain ⟨ha, ht⟩ := (resolveClass_links e.toSetting hl').op (op := VmOp.resolveClass m.cls y.2.2.2) rfl
        have hal : S.vm.Alike (S.vm.noted m.cls y.2.2.2 (.cls cN)) := (Vm.Alike.refl S.vm).noted _ _ _
        obtain ⟨k1, hk1⟩ := hkc
        obtain ⟨k1', hk1', -⟩ := hW.alike.2.2 _ _ hk1
        obtain ⟨k1'', hk1'', -⟩ := hal.2.2 _ _ hk1'
        obtain ⟨k2', hk2', -⟩ := hW.alike.2.2 _ _ hkt
        obtain ⟨k2'', hk2'', -⟩ := hal.2.2 _ _ hk2'
        have hfit' : (S.vm.noted m.cls y.2.2.2 (.cls cN)).assignable cell.cls cN = false := by rw [hal.assignable, hW.alike.assignable, hcl]; exact hno
        obtain ⟨vm', hW', hq⟩ := ih hrest (S.setVm (S.vm.noted m.cls y.2.2.2 (.cls cN))) (hW.noted hd hopen (State.rightAt_cls hl)) hcell
        refine ⟨vm', hW', fun Q E d acts => ?_⟩
        show wp (findHandler.go (F0 m pc ls st) a (⟨y.1, y.2.1, y.2.2.1, y.2.2.2⟩ :: (tableOf (ys ++ [h]) ++ rest))) Q E e d acts S ↔ _
        rw [show Q (.found h.2.2.1) d acts (S.setVm vm') = Q (.found h.2.2.1) d acts ((S.setVm (S.vm.noted m.cls y.2.2.2 (.cls cN))).setVm vm') from rfl, ← hq Q E d acts]
        simp [findHandler.go, hcv.1, hcv.2, h0, ha, ht, hcell, hobj, hk1'', hk2'', hfit', VmOp.dirties, VmOp.acts]
      · obtain ⟨vm', hW', hq⟩ := ih hrest S hW hcell
        refine ⟨vm', hW', fun Q E d acts => ?_⟩
        have hcov : covers (⟨y.1, y.2.1, y.2.2.1, y.2.2.2⟩ : ExceptionTableEntry) (F0 m pc ls st).pc = false := by
          simp only [covers, Bool.and_eq_false_iff, decide_eq_false_iff_not]
          by_cases h1 : y.1 ≤ pc
          · exact Or.inr (fun h2 => hcv ⟨h1, h2⟩)
          · exact Or.inl h1
        show wp (findHandler.go (F0 m pc ls st) a (_ :: (tableOf (ys ++ [h]) ++ rest))) Q E e d acts S ↔ _
        rw [W.findHandler_go_skip hcov]
        exact hq Q E d acts
theorem jt_catch {x k : Nat} {X : String} (pre : List (Nat × Nat × Nat × Nat)) (h : Nat × Nat × Nat × Nat) (rest : List (Nat × Nat × Nat × Nat)) (hh : μ.2.2.2.2 = pre ++ h :: rest) (hX : q_xn[k]? = some X) (ht : q_t σ x = (5, k)) (hx : 0 < x ∧ x ≤ q_n σ) (hpass : ∀ y ∈ pre, q_pass ω μ.1.cls pc k y) (htk : q_take ω μ.1.cls pc k h)
    (kk : J ω μ d mc ms cs sl h.2.2.1 L [.ref x] σ Q) : JT ω μ d mc ms cs sl pc L x σ Q := by
  intro p l e R s m args below meth c T locs ls st C hr hl hf X₀
  obtain ⟨hex, hb, hml, hret, hlocks, hown, hname, hts, hexc, hfl, hroom, htab⟩ := id C
  have hat := hr.1 x hx
  unfold q_at at hat
  rw [ht] at hat
  obtain ⟨cell, g1, g2, g3⟩ := hat
  have hpl : e.platform.magicAccessors = ({} : Platform).magicAccessors := by rw [X₀.admits.platform]
  obtain ⟨vm', hW', hq⟩ := q_go (ls := ls) (st := st) (a := q_ad ω x) (args := args) hpl hown hts htab g2 g3 hX h (tableOf rest) htk pre hpass ((T.setTop (F0 m pc ls st)).pushFrame (.throwing (q_ad ω x))) (by rw [Stand.throwing_vm]; exact X₀.warmed) (by rw [Stand.throwing_heap]; exact g1)
  obtain ⟨t, a1, b1⟩ := kk p l e R s m args below meth c T.heap locs ls C hr hl hf (T.setVm vm') rfl (X₀.noted hW')
  refine ⟨t, ?_, b1⟩
  have hfind : ∀ (Q : Handler → Pre) (E : CtlPost) (d : Bool) (acts : List Action), wp (findHandler (F0 m pc ls st) (q_ad ω x)) Q E e d acts ((T.setTop (F0 m pc ls st)).pushFrame (.throwing (q_ad ω x))) ↔ Q (.found h.2.2.1) d acts (((T.setTop (F0 m pc ls st)).pushFrame (.throwing (q_ad ω x))).setVm vm') := by
    intro Q E d acts
    rw [W.findHandler_eq (meth := meth) (code := c) (by rw [Stand.throwing_vm]; exact X₀.method') X₀.code, hexc, hh]
    rw [show tableOf (pre ++ h :: rest) = tableOf (pre ++ [h]) ++ tableOf rest by simp [tableOf]]
    exact hq Q E d acts
  obtain ⟨hgo, hw⟩ := At.throwing (g := F0 m pc ls st) X₀.here (q_ad ω x)
  refine Steps.head hgo hw ?_
  obtain ⟨g₀, hg⟩ := Option.isSome_iff_exists.mp X₀.here.top
  obtain ⟨r, hr0⟩ := State.topJava?_eq_some.mp hg
  have hone : (stepThrowing e ((T.setTop (F0 m pc ls st)).pushFrame (.throwing (q_ad ω x))) (q_ad ω x) (.java (F0 m pc ls st) :: r)).1 = (((T.setTop (F0 m pc ls st)).pushFrame (.throwing (q_ad ω x))).setVm vm').setFrames (.java { F0 m pc ls st with pc := h.2.2.1, stack := [.ref (q_ad ω x)] } :: r) := by
    simp only [stepThrowing, searchFrame, vmDo]
    generalize hres : Sem.go _ e false [] _ = res
    obtain ⟨as, rfl, -⟩ := Sem.eq_ok_of hres (a := Handler.found h.2.2.1) (s' := ((T.setTop (F0 m pc ls st)).pushFrame (.throwing (q_ad ω x))).setVm vm') (acts' := []) (by simp [hfind _ _ _ _])
    rfl
  have hfr : ((T.setTop (F0 m pc ls st)).pushFrame (.throwing (q_ad ω x))).frames = .throwing (q_ad ω x) :: .java (F0 m pc ls st) :: r := by
    have h9 := frames_entered (g := F0 m pc ls st) X₀.here.top (.throwing (q_ad ω x))
    rw [h9, hr0]
    rfl
  rw [stepThread_throwing hfr, hone]
  have hr' : (T.setVm vm').frames = .java g₀ :: r := hr0
  rw [State.setTop_of_frames _ hr'] at a1
  have e1 : (((T.setTop (F0 m pc ls st)).pushFrame (.throwing (q_ad ω x))).setVm vm').setFrames (.java { F0 m pc ls st with pc := h.2.2.1, stack := [.ref (q_ad ω x)] } :: r) = (T.setVm vm').setFrames (.java (F0 m h.2.2.1 ls [.ref (q_ad ω x)]) :: r) := by
    rw [State.pushFrame, State.setTop_of_frames _ hr0]
    rw [show ∀ (u : State) (F : List Frame), (u.setFrames F).setVm vm' = (u.setVm vm').setFrames F from fun _ _ => rfl, show ∀ (u : State) (F : List Frame), (u.setFrames F).setVm vm' = (u.setVm vm').setFrames F from fun _ _ => rfl, State.setFrames_setFrames, State.setFrames_setFrames]
  rw [e1]
  exact a1
end ExcJ
