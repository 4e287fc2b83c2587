/-- the exception x is thrown at the method, at this pc -/
def JT (ω : q_W) (μ : q_M) (d mc ms cs sl pc : Nat) (L : List (Nat × Value)) (x : Nat) (σ : q_H) (Q : q_R → q_H → Prop) : Prop :=
  ∀ (p : Program) (l : Launch) (e : Env) (R : Room) (s : State) (m : MethodId) (args : Array Value) (below : List Frame) (meth : Method) (c : Code) (T : State) (locs : List Loc) (ls : Array Slot) (st : List Value),
    q_ctx ω μ d mc ms p l e R s m args meth c → q_rep ω σ T.heap → lv_has ls μ.2.2.1 (L.map (q_cl ω)) → (∀ q ∈ locs, ω.1 < q.base) → Stand p l e R s m args below meth c T locs cs sl →
    ∃ t, Steps p.tables e below ((T.setTop (F0 m pc ls st)).pushFrame (.throwing (q_ad ω x))) t ∧ q_end ω mc ms Q below s t
/-- a call's site: its link, the callee's code -/
def q_lnk (own : String) (idx : Nat) (y : MethodName) : Prop := Cond.methodLink own idx y ∈ tables_1 ∨ ∃ host, Cond.methodLinkNest own idx y host ∈ tables_1
def q_CB (μ' : q_M) (n : Nat) : Prop := q_cd μ' ∧ μ'.2.2.1 ≤ 21 ∧ μ'.1.cls ≠ "java/lang/invoke/MethodHandle" ∧ μ'.1.cls ≠ "java/lang/invoke/VarHandle" ∧ (parseMethodDescriptor μ'.1.desc).map (fun z => z.parameters.length) = some n
def q_CS (own : String) (idx : Nat) (μ' : q_M) (n : Nat) : Prop := q_CB μ' n ∧ q_lnk own idx μ'.1 ∧ Cond.static μ'.1 ∈ tables_1
def q_CV (own : String) (idx ci : Nat) (μ' : q_M) (n : Nat) : Prop := q_CB μ' n ∧ q_lnk own idx μ'.1 ∧ Cond.instanceMethod μ'.1 ∈ tables_1 ∧ ∃ (C : String) (T : u_T) (N : Nat), q_cls[ci]? = some (C, T, N) ∧ Cond.selects C μ'.1 μ'.1 ∈ lw_tbl
def q_CI (own : String) (idx : Nat) (μ' : q_M) (n : Nat) : Prop := q_CB μ' n ∧ q_lnk own idx μ'.1 ∧ Cond.instanceMethod μ'.1 ∈ tables_1 ∧ μ'.1.name = "<init>" ∧ Cond.code μ'.1 μ'.2.1 μ'.2.2.1 none ∈ tables_1
theorem q_lgl (ω : q_W) : ∀ as : List Value, (lg_sl (as.map (q_cv ω))).length = (lg_sl as).length
  | [] => rfl
  | v :: vs => by
    have ih := q_lgl ω vs
    cases v <;> simp_all [lg_sl, q_cv, Value.category]
section CallJ
variable {ω : q_W} {μ : q_M} {d mc ms cs sl pc : Nat} {L : List (Nat × Value)} {st : List Value} {σ : q_H} {Q : q_R → q_H → Prop}
theorem q_fin {p : Program} {l : Launch} {e : Env} {R : Room} {s : State} {m : MethodId} {args : Array Value} {below : List Frame} {meth : Method} {c : Code} {T : State} {locs : List Loc} {ls : Array Slot} {μ' : q_M} {as rest : List Value} {d' mc' ms' n : Nat} {Q' : q_R → q_H → Prop} {vm₁ : Vm} {mk : MethodId} {stk : List Value} {ig : Instr}
    (C : q_ctx ω μ d mc ms p l e R s m args meth c) (hr : q_rep ω σ T.heap) (hl : lv_has ls μ.2.2.1 (L.map (q_cl ω))) (hf : ∀ q ∈ locs, ω.1 < q.base) (hB : q_CB μ' n) (hd : decode μ.2.1 pc = .ok (ig, 3)) (hwt : (rest.map fun v => v.category).sum ≤ 8) (hdd : d' + 1 ≤ d) (hlen : (lg_sl as).length ≤ μ'.2.2.1) (hc : cs + mc' ≤ mc) (hs : sl + ms' ≤ ms)
    (hJ : J ω μ' d' mc' ms' 0 0 0 (lv_args 0 as) [] σ Q') (kr : ∀ v σ', Q' (.inl v) σ' → J ω μ d mc ms (cs + mc') (sl + ms') (pc + 3) L (v.toList ++ rest) σ' Q) (kt : ∀ x σ', Q' (.inr x) σ' → JT ω μ d mc ms (cs + mc') (sl + ms') pc L x σ' Q)
    (X₁ : Stand p l e R s m args below meth c (T.setVm vm₁) locs cs sl) (hnamed : s.methodNamed? μ'.1 = some mk)
    (hstep : ∀ target, (∀ acts, Steps p.tables e below (doInvoke e ((T.setVm vm₁).setTop (F0 m pc ls (rest.map (q_cv ω)))) acts mk (as.map (q_cv ω)).toArray).1 target) → Steps p.tables e below (T.setTop (F0 m pc ls stk)) target) :
    ∃ t, Steps p.tables e below (T.setTop (F0 m pc ls stk)) t ∧ q_end ω mc ms Q below s t := by
  obtain ⟨hx, hb, hml, hret, hlocks, hown, hname, hts, hexc, hfl, hroom, htab⟩ := id C
  have hM := q_met (ω := ω) (as := as) hfl hB.1 (by rw [q_lgl]; exact hlen) hJ
  have hwt' : 2 * (F0 m pc ls (rest.map (q_cv ω))).monitorRoom + ((F0 m pc ls (rest.map (q_cv ω))).stack.map fun v => v.category).sum ≤ 8 := by
    refine lv_room (st := rest.map (q_cv ω)) ?_
    rw [List.map_map]
    rw [show ((fun v => v.category) ∘ q_cv ω) = (fun v : Value => v.category) from funext (q_cat ω)]
    exact hwt
  obtain ⟨r, σ', T', L1, hQ, hrep, XT, hL, hback⟩ := q_call X₁ hM hB.1 (g := F0 m pc ls (rest.map (q_cv ω))) rfl (by rw [hml]; exact hl.1) (by rw [hb]; exact hd) hwt' (X₁.named hnamed) (fun a w hw => q_word (q_tb_good hw) X₁.warmed (hts w hw)) (Nat.le_trans hdd hroom.1) (by have := hB.2.1; have := hroom.2.1; omega) (Nat.le_trans hc hroom.2.2.1) (Nat.le_trans hs hroom.2.2.2) hr (q_tab_moved X₁.warmed hr.2.2.2 htab)
  have hf' : ∀ q ∈ locs ++ L1, ω.1 < q.base := fun q hq => (List.mem_append.mp hq).elim (hf q) (hL q)
  cases r with
  | inl v =>
    obtain ⟨t, a1, b1⟩ := kr v σ' hQ p l e R s m args below meth c T'.heap (locs ++ L1) ls C hrep hl hf' T' rfl XT
    refine ⟨t, hstep _ fun acts => ?_, b1⟩
    rw [doInvoke_state]
    refine Steps.trans hback ?_
    have e1 : (v.map (q_cv ω)).toList ++ rest.map (q_cv ω) = (v.toList ++ rest).map (q_cv ω) := by cases v <;> rfl
    show Steps p.tables e below (T'.setTop (F0 m (pc + 3) ls ((v.map (q_cv ω)).toList ++ rest.map (q_cv ω)))) t
    rw [e1]
    exact a1
  | inr x =>
    obtain ⟨t, a1, b1⟩ := kt x σ' hQ p l e R s m args below meth c T' (locs ++ L1) ls (rest.map (q_cv ω)) C hrep hl hf' XT
    refine ⟨t, hstep _ fun acts => ?_, b1⟩
    rw [doInvoke_state]
    exact Steps.trans hback a1
theorem j_callS {idx n : Nat} (μ' : q_M) (as rest : List Value) (d' mc' ms' : Nat) {Q' : q_R → q_H → Prop} (hC : q_CS μ.1.cls idx μ' n) (hd : decode μ.2.1 pc = .ok (.invokestatic idx, 3)) (hn : as.length = n) (hst : st = as.reverse ++ rest) (hwt : (rest.map fun v => v.category).sum ≤ 8) (hdd : d' + 1 ≤ d) (hlen : (lg_sl as).length ≤ μ'.2.2.1) (hc : cs + mc' ≤ mc) (hs : sl + ms' ≤ ms)
    (hJ : J ω μ' d' mc' ms' 0 0 0 (lv_args 0 as) [] σ Q') (kr : ∀ v σ', Q' (.inl v) σ' → J ω μ d mc ms (cs + mc') (sl + ms') (pc + 3) L (v.toList ++ rest) σ' Q) (kt : ∀ x σ', Q' (.inr x) σ' → JT ω μ d mc ms (cs + mc') (sl + ms') pc L x σ' Q) : J ω μ d mc ms cs sl pc L st σ Q := by
  intro p l e R s m args below meth c H locs ls C hr hl hf T hT X
  subst hT
  obtain ⟨hx, hb, hml, hret, hlocks, hown, hname, hts, hexc, hfl, hroom, htab⟩ := id C
  obtain ⟨hB, hlk, hstat⟩ := hC
  obtain ⟨mk, methM, cM, hnamed, hmethM, -, -, -, -, -, -, hsigM⟩ := q_cd_spec hB.1 hts
  have hstatic : methM.isStatic = true := Cond.static_spec hnamed hmethM (hts _ (q_in hstat))
  obtain ⟨kP, hkP, -⟩ := className_of_methodNamed hnamed
  have hinitP : kP.init = .initialized := Cond.initialized_spec (findClass_of_methodNamed hnamed) hkP (hts _ (q_in hB.1.2.1))
  have hnl : (as.map (q_cv ω)).length = methM.sig.parameters.length := by
    have h9 := hB.2.2.2.2
    rw [hsigM] at h9
    rw [List.length_map, hn]
    exact (Option.some.inj h9).symm
  have hstack : (F0 m pc ls (st.map (q_cv ω))).stack = (as.map (q_cv ω)).reverse ++ rest.map (q_cv ω) := by
    show st.map (q_cv ω) = _
    rw [hst, List.map_append, List.map_reverse]
  rcases hlk with hlk | ⟨host, hlk⟩
  · obtain ⟨vm₁, X₁, hstep₁⟩ := X.invokestatic hx hown (hts _ (q_in hlk)) hnamed hmethM hstatic hkP hinitP ⟨hB.2.2.1, hB.2.2.2.1⟩ (g := F0 m pc ls (st.map (q_cv ω))) rfl (argsL := as.map (q_cv ω)) (rest := rest.map (q_cv ω)) hnl hstack (by rw [hb]; exact hd)
    exact q_fin C hr hl hf hB hd hwt hdd hlen hc hs hJ kr kt X₁ hnamed hstep₁
  · obtain ⟨vm₁, X₁, hstep₁⟩ := X.invokestaticNest hx hown (hts _ (q_in hlk)) hnamed hmethM hstatic hkP hinitP ⟨hB.2.2.1, hB.2.2.2.1⟩ (g := F0 m pc ls (st.map (q_cv ω))) rfl (argsL := as.map (q_cv ω)) (rest := rest.map (q_cv ω)) hnl hstack (by rw [hb]; exact hd)
    exact q_fin C hr hl hf hB hd hwt hdd hlen hc hs hJ kr kt X₁ hnamed hstep₁
theorem j_callV {idx n ci o : Nat} (μ' : q_M) (as rest : List Value) (d' mc' ms' : Nat) {Q' : q_R → q_H → Prop} (hC : q_CV μ.1.cls idx ci μ' n) (hd : decode μ.2.1 pc = .ok (.invokevirtual idx, 3)) (hn : as.length = n) (hst : st = as.reverse ++ .ref o :: rest) (ht : q_t σ o = (1, ci)) (ho : 0 < o ∧ o ≤ q_n σ) (hwt : (rest.map fun v => v.category).sum ≤ 8) (hdd : d' + 1 ≤ d) (hlen : (lg_sl (.ref o :: as)).length ≤ μ'.2.2.1) (hc : cs + mc' ≤ mc) (hs : sl + ms' ≤ ms)
    (hJ : J ω μ' d' mc' ms' 0 0 0 (lv_args 0 (.ref o :: as)) [] σ Q') (kr : ∀ v σ', Q' (.inl v) σ' → J ω μ d mc ms (cs + mc') (sl + ms') (pc + 3) L (v.toList ++ rest) σ' Q) (kt : ∀ x σ', Q' (.inr x) σ' → JT ω μ d mc ms (cs + mc') (sl + ms') pc L x σ' Q) : J ω μ d mc ms cs sl pc L st σ Q := by
  intro p l e R s m args below meth c H locs ls C hr hl hf T hT X
  subst hT
  obtain ⟨hx, hb, hml, hret, hlocks, hown, hname, hts, hexc, hfl, hroom, htab⟩ := id C
  obtain ⟨hB, hlk, hinst, Cn, Tn, N, hcl, hsel⟩ := hC
  obtain ⟨mk, methM, cM, hnamed, hmethM, -, -, -, -, -, -, hsigM⟩ := q_cd_spec hB.1 hts
  obtain ⟨mk', methM', hnamed', hmethM', hstM, habM⟩ := Cond.instanceMethod_spec (hts _ (q_in hinst))
  cases hnamed.symm.trans hnamed'
  cases hmethM.symm.trans hmethM'
  have hat := hr.1 o ho
  unfold q_at at hat
  rw [ht] at hat
  obtain ⟨r, h1, cell, g1, g2, g3, g4⟩ := hat
  have hr' : r = (Cn, Tn, N) := Option.some.inj (h1.symm.trans hcl)
  subst hr'
  have hcls : s.vm.findClass Cn = some cell.cls := by rw [g2]; exact (htab.1.1 ci _ hcl).2.1
  have hsel' : (Cond.selects Cn μ'.1 μ'.1).before args s = true := hts _ (List.mem_filter.mpr ⟨hsel, rfl⟩)
  obtain ⟨c2, r2, m2, q1, q2, q3, q4, kP, hkP, hkPi⟩ := Cond.selects_spec hsel'
  cases hcls.symm.trans q1
  cases (State.methodFound?_of_named hnamed ⟨hB.2.2.1, hB.2.2.2.1⟩).symm.trans q2
  cases hnamed.symm.trans q3
  have hselP : selectMethod e.platform s.vm cell.cls mk = .method mk := by rw [Launch.admits_selectMethod X.admits]; exact q4
  have hnl : (as.map (q_cv ω)).length = methM.sig.parameters.length := by
    have h9 := hB.2.2.2.2
    rw [hsigM] at h9
    rw [List.length_map, hn]
    exact (Option.some.inj h9).symm
  have hstack : (F0 m pc ls (st.map (q_cv ω))).stack = (as.map (q_cv ω)).reverse ++ .ref (q_ad ω o) :: rest.map (q_cv ω) := by
    show st.map (q_cv ω) = _
    rw [hst, List.map_append, List.map_reverse]
    rfl
  have hobj : ∀ z, cell.vm ≠ .statics z := fun z h => by rw [g3] at h; cases h
  rcases hlk with hlk | ⟨host, hlk⟩
  · obtain ⟨vm₁, X₁, hstep₁⟩ := X.invokevirtual hx hown (hts _ (q_in hlk)) hnamed hmethM hstM hkP hkPi ⟨hB.2.2.1, hB.2.2.2.1⟩ (a := q_ad ω o) (cell := cell) g1 hobj hselP hmethM habM hkP hkPi (g := F0 m pc ls (st.map (q_cv ω))) rfl (argsL := as.map (q_cv ω)) (rest := rest.map (q_cv ω)) hnl hstack (by rw [hb]; exact hd)
    exact q_fin (as := .ref o :: as) C hr hl hf hB hd hwt hdd hlen hc hs hJ kr kt X₁ hnamed hstep₁
  · obtain ⟨vm₁, X₁, hstep₁⟩ := X.invokevirtualNest hx hown (hts _ (q_in hlk)) hnamed hmethM hstM hkP hkPi ⟨hB.2.2.1, hB.2.2.2.1⟩ (a := q_ad ω o) (cell := cell) g1 hobj hselP hmethM habM hkP hkPi (g := F0 m pc ls (st.map (q_cv ω))) rfl (argsL := as.map (q_cv ω)) (rest := rest.map (q_cv ω)) hnl hstack (by rw [hb]; exact hd)
    exact q_fin (as := .ref o :: as) C hr hl hf hB hd hwt hdd hlen hc hs hJ kr kt X₁ hnamed hstep₁
theorem j_callI {idx n o : Nat} (μ' : q_M) (as rest : List Value) (d' mc' ms' : Nat) {Q' : q_R → q_H → Prop} (hC : q_CI μ.1.cls idx μ' n) (hd : decode μ.2.1 pc = .ok (.invokespecial idx, 3)) (hn : as.length = n) (hst : st = as.reverse ++ .ref o :: rest) (hwt : (rest.map fun v => v.category).sum ≤ 8) (hdd : d' + 1 ≤ d) (hlen : (lg_sl (.ref o :: as)).length ≤ μ'.2.2.1) (hc : cs + mc' ≤ mc) (hs : sl + ms' ≤ ms)
    (hJ : J ω μ' d' mc' ms' 0 0 0 (lv_args 0 (.ref o :: as)) [] σ Q') (kr : ∀ v σ', Q' (.inl v) σ' → J ω μ d mc ms (cs + mc') (sl + ms') (pc + 3) L (v.toList ++ rest) σ' Q) (kt : ∀ x σ', Q' (.inr x) σ' → JT ω μ d mc ms (cs + mc') (sl + ms') pc L x σ' Q) : J ω μ d mc ms cs sl pc L st σ Q := by
  intro p l e R s m args below meth c H locs ls C hr hl hf T hT X
  subst hT
  obtain ⟨hx, hb, hml, hret, hlocks, hown, hname, hts, hexc, hfl, hroom, htab⟩ := id C
  obtain ⟨hB, hlk, hinst, hy1, hh⟩ := hC
  have hpl : e.platform.magicAccessors = ({} : Platform).magicAccessors := by rw [X.admits.platform]
  have hcode : (Cond.code μ'.1 μ'.2.1 μ'.2.2.1 none).before args s = true := hts _ (q_in hh)
  have hlen9 : ∀ sig, parseMethodDescriptor μ'.1.desc = some sig → (as.map (q_cv ω)).length = sig.parameters.length := by
    intro sig h
    have h9 := hB.2.2.2.2
    rw [h] at h9
    rw [List.length_map, hn]
    exact (Option.some.inj h9).symm
  have hstack : (F0 m pc ls (st.map (q_cv ω))).stack = (as.map (q_cv ω)).reverse ++ .ref (q_ad ω o) :: rest.map (q_cv ω) := by
    show st.map (q_cv ω) = _
    rw [hst, List.map_append, List.map_reverse]
    rfl
  rcases hlk with hlk | ⟨host, hlk⟩
  · obtain ⟨mk, methM, cM, kP, vm₁, hnamed, hmethM, hcodeM, -, hlocalsM, -, hkP, -, hW₁, hstep₁⟩ := Steps.initColdArgs (e := e) X.here hx X.warmed hpl hown hy1 ⟨hB.2.2.1, hB.2.2.2.1⟩ (hts _ (q_in hlk)) (hts _ (q_in hinst)) hcode (f := F0 m pc ls (st.map (q_cv ω))) rfl hlen9 hstack (by rw [hb]; exact hd)
    exact q_fin (as := .ref o :: as) C hr hl hf hB hd hwt hdd hlen hc hs hJ kr kt (X.noted hW₁) hnamed hstep₁
  · obtain ⟨mk, methM, cM, kP, vm₁, hnamed, hmethM, hcodeM, -, hlocalsM, -, hkP, -, hW₁, hstep₁⟩ := Steps.initColdArgsNest (e := e) X.here hx X.warmed hpl hown hy1 ⟨hB.2.2.1, hB.2.2.2.1⟩ (hts _ (q_in hlk)) (hts _ (q_in hinst)) hcode (f := F0 m pc ls (st.map (q_cv ω))) rfl hlen9 hstack (by rw [hb]; exact hd)
    exact q_fin (as := .ref o :: as) C hr hl hf hB hd hwt hdd hlen hc hs hJ kr kt (X.noted hW₁) hnamed hstep₁
/-- Object's constructor -/
def q_OI (own : String) (idx : Nat) : Prop := Cond.methodLink own idx objectInit ∈ tables_1
theorem j_objInit {idx o : Nat} (hC : q_OI μ.1.cls idx) (hd : decode μ.2.1 pc = .ok (.invokespecial idx, 3)) (hdd : 1 ≤ d) (hwt : (st.map fun v => v.category).sum ≤ 8) (kk : J ω μ d mc ms cs sl (pc + 3) L st σ Q) : J ω μ d mc ms cs sl pc L (.ref o :: st) σ Q := by
  intro p l e R s m args below meth c H locs ls C hr hl hf
  obtain ⟨hx, hb, hml, hret, hlocks, hown, hname, hts, hexc, hfl, hroom, htab⟩ := id C
  refine W.objInit hx hb hown (hts _ (q_in hC)) (hts _ (q_in (w := .instanceMethod objectInit) (by decide +kernel))) (hts _ (q_in (w := .code objectInit ⟨#[0xb1]⟩ 1 none) (by decide +kernel))) rfl (by rw [hml]; exact hl.1) rfl hd (Nat.le_trans hdd hroom.1) ?_ (kk p l e R s m args below meth c H locs ls C hr hl hf)
  have h9 : 2 * (F0 m pc ls (.ref o :: st)).monitorRoom + ((st.map (q_cv ω)).map fun v => v.category).sum ≤ 8 := by
    refine lv_room ?_
    rw [List.map_map, show ((fun v => v.category) ∘ q_cv ω) = (fun v : Value => v.category) from funext (q_cat ω)]
    exact hwt
  have h8 := hroom.2.1
  have : 2 * (F0 m pc ls ((Value.ref o :: st).map (q_cv ω))).monitorRoom + ((st.map (q_cv ω)).map fun v => v.category).sum ≤ 8 := h9
  omega
/-- no handler is there: the method ends with the exception -/
theorem jt_out {x : Nat} (hh : μ.2.2.2.2 = []) (hc : cs ≤ mc) (hs : sl ≤ ms) (hQ : Q (.inr x) σ) : JT ω μ d mc ms cs sl pc L x σ Q := by
  intro p l e R s m args below meth c T locs ls st C hr hl hf X
  obtain ⟨hx, hb, hml, hret, hlocks, hown, hname, hts, hexc, hfl, hroom, htab⟩ := id C
  obtain ⟨hw, h1, h2, h3, h4⟩ := (stand_widen X hc hs).leaveThrown (q_ad ω x) (g := F0 m pc ls st) rfl rfl rfl (fun y hy => by rw [hexc, hh] at hy; cases hy) hlocks
  exact ⟨_, hw, .inr x, σ, locs, h1, h2, hQ, hr, h3, h4, hf⟩
end CallJ
