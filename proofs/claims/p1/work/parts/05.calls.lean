/-! CALLS -/
theorem q_args (ω : q_W) : ∀ (as : List Value) (i : Nat), lv_args i (as.map (q_cv ω)) = (lv_args i as).map (q_cl ω)
  | [], _ => rfl
  | v :: vs, i => by
    show (i, q_cv ω v) :: lv_args (if (q_cv ω v).category = 2 then i + 2 else i + 1) (vs.map (q_cv ω)) = (i, q_cv ω v) :: (lv_args (if v.category = 2 then i + 2 else i + 1) vs).map (q_cl ω)
    rw [q_cat, q_args ω vs]
/-- the method's code stands in the tables -/
def q_cd (μ : q_M) : Prop := plainName μ.1.cls = true ∧ Cond.initialized μ.1.cls ∈ tables_1 ∧ ((μ.2.2.2.2 = [] ∧ Cond.code μ.1 μ.2.1 μ.2.2.1 μ.2.2.2.1 ∈ tables_1) ∨ Cond.codeWith μ.1 μ.2.1 μ.2.2.1 μ.2.2.2.1 μ.2.2.2.2 ∈ tables_1)
theorem q_cd_spec {μ : q_M} (h : q_cd μ) {args : Array Value} {s : State} (hts : ∀ w ∈ q_tb, w.before args s = true) : ∃ m meth c, s.methodNamed? μ.1 = some m ∧ s.vm.method? m = some meth ∧ meth.code = some c ∧ c.code = μ.2.1 ∧ c.maxLocals = μ.2.2.1 ∧ c.exceptionTable.toList = tableOf μ.2.2.2.2 ∧ meth.sig.returnType = μ.2.2.2.1 ∧ meth.locks = false ∧ parseMethodDescriptor μ.1.desc = some meth.sig := by
  obtain ⟨-, -, h | h⟩ := h
  · obtain ⟨h0, h⟩ := h
    have hw := hts _ (q_in h)
    obtain ⟨m, hn⟩ := Cond.code_named hw
    obtain ⟨meth, c, h1, h2, h3, h4, h5, h6, h7, h8⟩ := Cond.code_spec hn hw
    refine ⟨m, meth, c, hn, h1, h2, h3, h4, ?_, h5, h6, h8⟩
    rw [h0]
    have : c.exceptionTable = #[] := Array.isEmpty_iff.mp h7
    rw [this]; rfl
  · have hw := hts _ (q_in h)
    obtain ⟨m, meth, c, h0, h1, h2, h3, h4, h5, h6, h7, h8⟩ := Cond.codeWith_spec hw
    refine ⟨m, meth, c, h0, h1, h2, h3, h4, ?_, h6, h7, h8⟩
    rw [← h5]
    unfold tableOf
    rw [List.map_map]
    conv => lhs; rw [← List.map_id c.exceptionTable.toList]
    rfl
def q_room (d mc ms : Nat) : Room := { frames := d, cells := mc, slots := ms, locals := 40 * d }
def q_Pc (ω : q_W) (as : List Value) (σ : q_H) : Array Value → State → Prop := fun a U => a = (as.map (q_cv ω)).toArray ∧ q_rep ω σ U.heap ∧ q_tab ω U
def q_Qc (ω : q_W) (mc ms : Nat) (Q : q_R → q_H → Prop) : Array Value → State → Outcome → State → Prop := fun _ U o t =>
  ∃ (r : q_R) (σ : q_H) (L : List Loc), o = q_out ω r ∧ Q r σ ∧ q_rep ω σ t.heap ∧ U.WarmedH t.vm ∧ U.sameButNew ({ t with vm := U.vm } : State) L mc ms ∧ ∀ q ∈ L, ω.1 < q.base
theorem q_met {ω : q_W} {μ : q_M} {d mc ms : Nat} {as : List Value} {σ : q_H} {Q : q_R → q_H → Prop} {l : Launch} (hfl : q_off l) (hcd : q_cd μ) (hlen : (lg_sl (as.map (q_cv ω))).length ≤ μ.2.2.1) (hJ : J ω μ d mc ms 0 0 0 (lv_args 0 as) [] σ Q) :
    MetFree l μ.1 (headSpec q_tb (q_room d mc ms)) (q_Pc ω as σ) (fun _ _ _ _ _ => True) (q_Qc ω mc ms Q) := by
  refine MetFree.of_bodyS (code := μ.2.1) (maxLocals := μ.2.2.1) (ret := μ.2.2.2.1) hcd.1 ?_ ?_
  · intro args s m h hn
    obtain ⟨m', meth, c, h0, h1, h2, h3, h4, h5, h6, h7, h8⟩ := q_cd_spec hcd (atoms_spec (ws := q_tb) h)
    cases hn.symm.trans h0
    exact ⟨meth, c, h1, h2, h3, h4, h6, h7⟩
  · intro p e s m args below meth c s₁ B hml hP _
    obtain ⟨rfl, hr, htab⟩ := hP
    have hts : ∀ w ∈ q_tb, w.before (as.map (q_cv ω)).toArray s = true := atoms_spec (ws := q_tb) B.pre
    obtain ⟨m', meth', c', h0, h1, h2, h3, h4, h5, h6, h7, h8⟩ := q_cd_spec hcd hts
    cases B.named.symm.trans h0
    cases B.method.symm.trans h1
    have X0 := Stand.of_body B
    cases X0.code.symm.trans h2
    have hh0 : s₁.heap = s.heap := by rw [B.state]; rfl
    have C : q_ctx ω μ d mc ms p l e (headSpec q_tb (q_room d mc ms)).room s m (as.map (q_cv ω)).toArray meth c :=
      ⟨B.exec, h3, h4, h6, h7, findClass_of_methodNamed B.named, (name_of_methodNamed B.named B.method).1, hts, h5, hfl, ⟨Nat.le_refl _, Nat.le_refl _, Nat.le_refl _, Nat.le_refl _⟩, htab⟩
    have hl := lv_entry (as.map (q_cv ω)) (n := μ.2.2.1) hlen
    rw [q_args] at hl
    obtain ⟨t, a1, r, σ', L, b1, b2, b3, b4, b5, b6, b7⟩ := hJ p l e _ s m _ below meth c s₁.heap [] _ C (by rw [hh0]; exact hr) hl (fun _ h => by cases h) s₁ rfl X0
    rw [show List.map (q_cv ω) [] = [] from rfl, ← lg_entry_eq] at a1
    exact ⟨t, q_out ω r, a1, b1, b2, r, σ', L, rfl, b3, b4, b5, b6, b7⟩
/-- what a call comes to: the caller stands again, and either goes on or has the exception thrown at it -/
def q_back (p : Program) (e : Env) (below : List Frame) (g : JFrame) (len : Nat) (rest : List Value) (T' : State) (src : State) : Outcome → Prop
  | .returned v => Steps p.tables e below src (T'.setTop { g with pc := g.pc + len, stack := v.toList ++ rest })
  | .threw x => Steps p.tables e below src ((T'.setTop { g with stack := rest }).pushFrame (.throwing x))
theorem q_call {p : Program} {l : Launch} {e : Env} {R : Room} {s : State} {m : MethodId} {sargs : Array Value} {below : List Frame} {meth : Method} {c : Code} {U : State} {Ls : List Loc} {c0 s0 : Nat} {ω : q_W} {μ : q_M} {d mc ms : Nat} {as : List Value} {σ : q_H} {Q : q_R → q_H → Prop}
    (X : Stand p l e R s m sargs below meth c U Ls c0 s0) (hM : MetFree l μ.1 (headSpec q_tb (q_room d mc ms)) (q_Pc ω as σ) (fun _ _ _ _ _ => True) (q_Qc ω mc ms Q)) (hcd : q_cd μ)
    {g : JFrame} (hg : g.method = m) (hsize : g.locals.size = c.maxLocals) {ig : Instr} {len : Nat} (hdg : decode c.code g.pc = .ok (ig, len)) (hW : 2 * g.monitorRoom + (g.stack.map fun v => v.category).sum ≤ 8) {mk : MethodId} (hn : U.methodNamed? μ.1 = some mk)
    (hts : ∀ (a : Array Value), ∀ w ∈ q_tb, w.before a U = true) (hd : d + 1 ≤ R.frames) (hlo : 8 + (μ.2.2.1 + 11) + 40 * d ≤ R.locals) (hc : c0 + mc ≤ R.cells) (hs : s0 + ms ≤ R.slots) (hrep : q_rep ω σ U.heap) (htab : q_tab ω U) :
    ∃ (r : q_R) (σ' : q_H) (T' : State) (L : List Loc), Q r σ' ∧ q_rep ω σ' T'.heap ∧ Stand p l e R s m sargs below meth c T' (Ls ++ L) (c0 + mc) (s0 + ms) ∧ (∀ q ∈ L, ω.1 < q.base) ∧ q_back p e below g len g.stack T' (doInvoke e (U.setTop g) [] mk (as.map (q_cv ω)).toArray).1 (q_out ω r) := by
  obtain ⟨m', methY, cY, h0, hmY, hcY, -, hlY, -, -, -, -⟩ := q_cd_spec hcd (hts (as.map (q_cv ω)).toArray)
  cases hn.symm.trans h0
  obtain ⟨kY, hkY, -⟩ := className_of_methodNamed hn
  have hinitY : kY.init = .initialized := Cond.initialized_spec (findClass_of_methodNamed hn) hkY (hts (as.map (q_cv ω)).toArray _ (q_in hcd.2.1))
  have h : At U g.method c below := by rw [hg]; exact X.here
  have happ : (headSpec q_tb (q_room d mc ms)).appliesLoose μ.1 e.platform (U.calling g mk (as.map (q_cv ω)).toArray) = true :=
    Spec.appliesLoose_calling (g := g) h hdg hn hkY hinitY
      (X.room_calling (g := g) (R' := q_room d mc ms) hsize hmY hcY hd (by rw [hlY]; show _ + 40 * d ≤ _; omega) hc hs) (atoms_intro (hts _))
  obtain ⟨mid, hmid⟩ := h.above
  have hfr : (U.setTop g).frames = (.java g :: mid) ++ below := by rw [State.frames_setTop' g h.top, hmid]; rfl
  have hPc : q_Pc ω as σ (as.map (q_cv ω)).toArray (U.calling g mk (as.map (q_cv ω)).toArray) := ⟨rfl, hrep, q_tab_moved (u := U) (U := U.calling g mk (as.map (q_cv ω)).toArray) (State.WarmedH.refl U) hrep.2.2.2 htab⟩
  obtain ⟨o, s₂, hsteps, -, hend, hq⟩ := Steps.callFree hM p X.admits X.cas X.clock (acts := []) hfr happ hPc trivial
  rw [State.frames_setTop' g h.top] at hend
  have hq' : q_Qc ω mc ms Q (as.map (q_cv ω)).toArray (U.calling g mk (as.map (q_cv ω)).toArray) o s₂ := hq
  obtain ⟨r, σ', L, ho, hQ, hrep', hW₂, ⟨e2, q2, q3, q4, q5, q6⟩, hL⟩ := hq'
  have e3 : s₂ = ({ (U.calling g mk (as.map (q_cv ω)).toArray).setFrames s₂.frames with heap := s₂.heap, slotsUsed := s₂.slotsUsed } : State).setVm s₂.vm := by
    have : s₂ = ({ s₂ with vm := (U.calling g mk (as.map (q_cv ω)).toArray).vm } : State).setVm s₂.vm := rfl
    rw [e2] at this
    exact this
  have hW' : U.WarmedH s₂.vm := hW₂
  obtain ⟨g₀, hg0⟩ := Option.isSome_iff_exists.mp h.top
  obtain ⟨r0, hr⟩ := State.topJava?_eq_some.mp hg0
  have hr' : (({ U with heap := s₂.heap, slotsUsed := s₂.slotsUsed } : State).setVm s₂.vm).frames = .java g₀ :: r0 := hr
  have hsame : U.sameButNew ({ U with heap := s₂.heap, slotsUsed := s₂.slotsUsed } : State) L mc ms := by
    refine ⟨?_, q2, q3, q4, q5, q6⟩
    obtain ⟨t, ht, -⟩ := State.frames_cons hr
    show ({ U with heap := s₂.heap, slotsUsed := s₂.slotsUsed } : State) = { U.setFrames U.frames with heap := s₂.heap, slotsUsed := s₂.slotsUsed }
    rw [State.setFrames_self ht]
  have XT : Stand p l e R s m sargs below meth c (({ U with heap := s₂.heap, slotsUsed := s₂.slotsUsed } : State).setVm s₂.vm) (Ls ++ L) (c0 + mc) (s0 + ms) :=
    ⟨X.admits, X.cas, X.clock, X.frames, X.room, X.hears, X.method, X.code, (X.here.setHeapUsed s₂.heap s₂.slotsUsed).setVm hW'.alike, X.tail, State.WarmedH.trans X.warmed hW', X.limits, X.bytes, X.same.trans (hsame.setVm s.vm)⟩
  refine ⟨r, σ', (({ U with heap := s₂.heap, slotsUsed := s₂.slotsUsed } : State).setVm s₂.vm), L, hQ, hrep', XT, hL, ?_⟩
  rw [← ho]
  cases o with
  | returned v =>
    obtain ⟨c₂, i₂, len₂, hc₂, hd₂, hf₂⟩ := hend
    have hcc : c₂ = c := by
      have h1 : s₂.code? g.method = U.code? g.method := by
        rw [State.code?_eq, State.code?_eq, hW'.alike.method?]
      exact Option.some.inj (hc₂.symm.trans (h1.trans h.code))
    subst hcc
    have hlen : len₂ = len := by rw [hdg] at hd₂; cases hd₂; rfl
    subst hlen
    have hs₂ : s₂ = (({ U with heap := s₂.heap, slotsUsed := s₂.slotsUsed } : State).setVm s₂.vm).setTop { g with pc := g.pc + len₂, stack := v.toList ++ g.stack } := by
      refine e3.trans ?_
      rw [hf₂, State.calling_eq h.top, State.setFrames_setFrames, State.setTop_of_frames _ hr', hr]
      rfl
    show Steps p.tables e below _ _
    rw [← hs₂]
    exact hsteps
  | threw x =>
    have hf₂ : s₂.frames = .throwing x :: .java g :: U.frames.tail := hend
    have hs₂ : s₂ = ((({ U with heap := s₂.heap, slotsUsed := s₂.slotsUsed } : State).setVm s₂.vm).setTop g).pushFrame (.throwing x) := by
      refine e3.trans ?_
      rw [hf₂, State.calling_eq h.top, State.setFrames_setFrames, State.pushFrame, State.frames_setTop _ hr', State.setTop_of_frames _ hr', State.setFrames_setFrames, hr]
      rfl
    show Steps p.tables e below _ ((({ U with heap := s₂.heap, slotsUsed := s₂.slotsUsed } : State).setVm s₂.vm).setTop g |>.pushFrame (.throwing x))
    rw [← hs₂]
    exact hsteps
