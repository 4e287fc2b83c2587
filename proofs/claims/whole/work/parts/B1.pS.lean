/-! STATEMENTS: recursive descent over TOKENS -/
/-- a step: what it does, which, its goal, the items of its EXPR -/
abbrev q_St : Type := Int × Int × Int × List q_It
/-- STATEMENTS that were read: their steps, WORK, first FAULT, ASSERTIONS counted behind them -/
abbrev q_Sm : Type := List q_St × Nat × Option (Int × Nat) × Nat
abbrev q_SR : Type := Except Nat (Nat × q_Sm)
def bnS (x : Option q_SR) (f : Nat → q_Sm → Option q_SR) : Option q_SR :=
  match x with
  | none => none
  | some (.error e) => some (.error e)
  | some (.ok (t, e)) => f t e
def bnX (x : q_PR) (f : Nat → q_Ex → Option q_SR) : Option q_SR :=
  match x with
  | .error e => some (.error e)
  | .ok (t, e) => f t e
/-- where STATEMENTS end -/
def tmn (dp : Nat) : Int := if dp = 0 then 46 else 38
def xF (e : q_Ex) : Option (Int × Nat) := e.2.2.2.map (fun x => (2, x))
/-- a NAME that is to be set -/
def tgF (N : Nat → q_It) (B : Nat → Bool) (t : Nat) : Option (Int × Nat) := if B t = false then some (2, t) else if (N t).1 = 24 then some (4, t) else none
def tgV (N : Nat → q_It) (t : Nat) : Int := if (N t).1 = 25 then (N t).2.1 else 0
def sSet (N : Nat → q_It) (B : Nat → Bool) (t : Nat) (e : q_Ex) (as : Nat) : q_Sm := ([(1, tgV N t, 0, e.1)], e.2.2.1 + 8, (tgF N B t).or (xF e), as)
def sCla (k : Int) (e : q_Ex) (as : Nat) : q_Sm := ([(if k = 44 then 2 else 3, (as : Int), 0, e.1)], e.2.2.1 + 8, xF e, if k = 44 then as + 1 else as)
def sIf (V i : Nat) (e : q_Ex) (s : q_Sm) : q_Sm := ((4, 0, ((i + 1 + s.1.length : Nat) : Int), e.1) :: (s.1 ++ [(6, 0, 0, [])]), e.2.2.1 + s.2.1 + 8 * V, (xF e).or s.2.2.1, s.2.2.2)
def sElse (V i : Nat) (e : q_Ex) (s o : q_Sm) : q_Sm := ((4, 0, ((i + 1 + s.1.length + 1 : Nat) : Int), e.1) :: (s.1 ++ (5, 0, ((i + 1 + s.1.length + 1 + o.1.length : Nat) : Int), []) :: (o.1 ++ [(6, 0, 0, [])])), e.2.2.1 + s.2.1 + o.2.1 + 8 * V, ((xF e).or s.2.2.1).or o.2.2.1, o.2.2.2)
def lpF (k : Int) (t : Nat) : Option (Int × Nat) := if 8 < k then some (5, t) else none
def sWhi (V i lp : Nat) (k : Int) (t : Nat) (e : q_Ex) (s : q_Sm) : q_Sm := ((7, k, (lp : Int), []) :: (8, (lp : Int), ((i + 2 + s.1.length + 1 : Nat) : Int), e.1) :: (s.1 ++ [(9, 0, ((i + 1 : Nat) : Int), [])]), k.toNat * (e.2.2.1 + s.2.1 + 8 * V) + e.2.2.1, ((lpF k t).or (xF e)).or s.2.2.1, s.2.2.2)
def sApp (a s : q_Sm) : q_Sm := (a.1 ++ s.1, a.2.1 + s.2.1, a.2.2.1.or s.2.2.1, s.2.2.2)
/-- V: how many VARIABLES; none: one STATEMENT; some a: those behind a, up to } or the TEXT's end. dp: DEPTH; lp: loops around; i: steps before; as: ASSERTIONS before -/
def pS (X : Nat → Nat → q_PR) (K : Nat → Int) (N : Nat → q_It) (B : Nat → Bool) (V : Nat) : Nat → Option q_Sm → Nat → Nat → Nat → Nat → Nat → Option q_SR
  | 0, _, _, _, _, _, _ => none
  | n + 1, some a, dp, lp, i, as, t =>
    if K t = tmn dp then some (.ok (t, a))
    else bnS (pS X K N B V n none dp lp (i + a.1.length) a.2.2.2 t) (fun t1 s => pS X K N B V n (some (sApp a s)) dp lp i as t1)
  | n + 1, none, dp, lp, i, as, t =>
    if 30 < dp then some (.error t)
    else if K t = 30 then
      if K (t + 1) = 31 then bnX (X dp (t + 2)) (fun t1 e => if K t1 = 32 then some (.ok (t1 + 1, sSet N B t e as)) else some (.error t1))
      else some (.error (t + 1))
    else if K t = 44 ∨ K t = 45 then bnX (X dp (t + 1)) (fun t1 e => if K t1 = 32 then some (.ok (t1 + 1, sCla (K t) e as)) else some (.error t1))
    else if K t = 41 then
      if K (t + 1) = 35 then bnX (X (dp + 1) (t + 2)) (fun t1 e =>
        if K t1 = 36 then bnS (pS X K N B V n none (dp + 1) lp (i + 1) as (t1 + 1)) (fun t2 s =>
          if K t2 = 42 then bnS (pS X K N B V n none (dp + 1) lp (i + 1 + s.1.length + 1) s.2.2.2 (t2 + 1)) (fun t3 o => some (.ok (t3, sElse V i e s o)))
          else some (.ok (t2, sIf V i e s)))
        else some (.error t1))
      else some (.error (t + 1))
    else if K t = 43 then
      if K (t + 1) = 23 then
        if K (t + 2) = 35 then bnX (X (dp + 1) (t + 3)) (fun t1 e =>
          if K t1 = 36 then bnS (pS X K N B V n none (dp + 1) (lp + 1) (i + 2) as (t1 + 1)) (fun t2 s => some (.ok (t2, sWhi V i lp (N (t + 1)).2.1 (t + 1) e s)))
          else some (.error t1))
        else some (.error (t + 2))
      else some (.error (t + 1))
    else if K t = 37 then bnS (pS X K N B V n (some ([], 0, none, as)) (dp + 1) lp i as (t + 1)) (fun t1 s => some (.ok (t1 + 1, s)))
    else some (.error t)
theorem bnS_some {x : Option q_SR} {f : Nat → q_Sm → Option q_SR} {r : q_SR} (h : bnS x f = some r) : (∃ e, x = some (.error e) ∧ r = .error e) ∨ ∃ t e, x = some (.ok (t, e)) ∧ f t e = some r := by
  match x, h with
  | some (.error e), h => exact Or.inl ⟨e, rfl, (Option.some.inj h).symm⟩
  | some (.ok (t, e)), h => exact Or.inr ⟨t, e, rfl, h⟩
theorem bnX_some {x : q_PR} {f : Nat → q_Ex → Option q_SR} {r : q_SR} (h : bnX x f = some r) : (∃ e, x = .error e ∧ r = .error e) ∨ ∃ t e, x = .ok (t, e) ∧ f t e = some r := by
  match x, h with
  | .error e, h => exact Or.inl ⟨e, rfl, (Option.some.inj h).symm⟩
  | .ok (t, e), h => exact Or.inr ⟨t, e, rfl, h⟩
section PsP
variable {K : Nat → Int} {N : Nat → q_It} {B : Nat → Bool} {V : Nat}
/-- an answer for all that is enough to spend -/
def enf {α : Type} (f : Nat → Option α) (r : α) : Prop := ∃ n, ∀ m, n ≤ m → f m = some r
/-- X answers for EXPRS -/
def XO (X : Nat → Nat → q_PR) (K : Nat → Int) (N : Nat → q_It) (B : Nat → Bool) (T : Nat) : Prop := ∀ dp t, t ≤ T → enf (fun m => pX K N B m 0 none dp t) (X dp t)
theorem XO_ex {T : Nat} (hT : K T = 46) : ∃ X, XO X K N B T := by
  have h : ∀ q : Nat × Nat, ∃ r, q.2 ≤ T → enf (fun m => pX K N B m 0 none q.1 q.2) r := fun q => by
    by_cases c : q.2 ≤ T
    · obtain ⟨n, r, h1, -⟩ := pX_end (N := N) (B := B) hT q.1 q.2 c
      exact ⟨r, fun _ => ⟨n, h1⟩⟩
    · exact ⟨.error 0, fun q => absurd q c⟩
  exact ⟨fun dp t => Classical.choose (h (dp, t)), fun dp t ht => Classical.choose_spec (h (dp, t)) ht⟩
theorem XO_ok {X : Nat → Nat → q_PR} {T dp t t' : Nat} {e : q_Ex} (hT : K T = 46) (hX : XO X K N B T) (ht : t ≤ T) (h : X dp t = .ok (t', e)) : t < t' ∧ t' ≤ T ∧ dp ≤ 30 := by
  obtain ⟨n, r, h1, h2⟩ := pX_end (N := N) (B := B) hT dp t ht
  obtain ⟨n2, h3⟩ := hX dp t ht
  have e1 := h1 (max n n2) (by omega)
  have e2 : pX K N B (max n n2) 0 none dp t = some (X dp t) := h3 (max n n2) (by omega)
  rw [e1] at e2
  have := Option.some.inj e2
  rw [h] at this
  have b := h2 t' e this
  subst this
  exact ⟨b.1, b.2.1, ((pX_next _ 0 none dp t t' e (by omega) (fun q => absurd rfl q) e1).2.2.1 rfl).2⟩
variable {X : Nat → Nat → q_PR}
theorem pS_s (n dp lp i as t : Nat) (a : q_Sm) : pS X K N B V (n + 1) (some a) dp lp i as t = if K t = tmn dp then some (.ok (t, a))
    else bnS (pS X K N B V n none dp lp (i + a.1.length) a.2.2.2 t) (fun t1 s => pS X K N B V n (some (sApp a s)) dp lp i as t1) := by
  conv => lhs; unfold pS
theorem pS_1 (n dp lp i as t : Nat) : pS X K N B V (n + 1) none dp lp i as t = if 30 < dp then some (.error t)
    else if K t = 30 then
      if K (t + 1) = 31 then bnX (X dp (t + 2)) (fun t1 e => if K t1 = 32 then some (.ok (t1 + 1, sSet N B t e as)) else some (.error t1))
      else some (.error (t + 1))
    else if K t = 44 ∨ K t = 45 then bnX (X dp (t + 1)) (fun t1 e => if K t1 = 32 then some (.ok (t1 + 1, sCla (K t) e as)) else some (.error t1))
    else if K t = 41 then
      if K (t + 1) = 35 then bnX (X (dp + 1) (t + 2)) (fun t1 e =>
        if K t1 = 36 then bnS (pS X K N B V n none (dp + 1) lp (i + 1) as (t1 + 1)) (fun t2 s =>
          if K t2 = 42 then bnS (pS X K N B V n none (dp + 1) lp (i + 1 + s.1.length + 1) s.2.2.2 (t2 + 1)) (fun t3 o => some (.ok (t3, sElse V i e s o)))
          else some (.ok (t2, sIf V i e s)))
        else some (.error t1))
      else some (.error (t + 1))
    else if K t = 43 then
      if K (t + 1) = 23 then
        if K (t + 2) = 35 then bnX (X (dp + 1) (t + 3)) (fun t1 e =>
          if K t1 = 36 then bnS (pS X K N B V n none (dp + 1) (lp + 1) (i + 2) as (t1 + 1)) (fun t2 s => some (.ok (t2, sWhi V i lp (N (t + 1)).2.1 (t + 1) e s)))
          else some (.error t1))
        else some (.error (t + 2))
      else some (.error (t + 1))
    else if K t = 37 then bnS (pS X K N B V n (some ([], 0, none, as)) (dp + 1) lp i as (t + 1)) (fun t1 s => some (.ok (t1 + 1, s)))
    else some (.error t) := by
  conv => lhs; unfold pS
/-- it comes to an end; and what holds behind what was read -/
theorem pS_ends {T : Nat} (hT : K T = 46) (hX : XO X K N B T) : ∀ (k : Nat) (a : Option q_Sm) (dp lp i as t : Nat), t ≤ T → 2 * (T - t) + (if a = none then 0 else 1) ≤ k → ∃ r, enf (fun m => pS X K N B V m a dp lp i as t) r ∧ ∀ t' s, r = .ok (t', s) → (a = none → t < t' ∧ dp ≤ 30) ∧ t ≤ t' ∧ t' ≤ T ∧ (a ≠ none → K t' = tmn dp) := by
  intro k
  induction k using Nat.strongRecOn with
  | _ k ih =>
  have ih' : ∀ (a : Option q_Sm) (dp lp i as t : Nat), t ≤ T → 2 * (T - t) + (if a = none then 0 else 1) < k → ∃ r, enf (fun m => pS X K N B V m a dp lp i as t) r ∧ ∀ t' s, r = .ok (t', s) → (a = none → t < t' ∧ dp ≤ 30) ∧ t ≤ t' ∧ t' ≤ T ∧ (a ≠ none → K t' = tmn dp) := fun a dp lp i as t h1 h2 => ih _ h2 a dp lp i as t h1 (Nat.le_refl _)
  have up : ∀ {a : Option q_Sm} {dp lp i as t : Nat} {r : q_SR}, (∃ n, ∀ m, n ≤ m → pS X K N B V (m + 1) a dp lp i as t = some r) → enf (fun m => pS X K N B V m a dp lp i as t) r := by
    intro a dp lp i as t r h
    obtain ⟨n, h⟩ := h
    refine ⟨n + 1, fun m hm => ?_⟩
    have := h (m - 1) (by omega)
    rwa [show m - 1 + 1 = m by omega] at this
  intro a dp lp i as t ht hk
  cases a with
  | some a =>
    rw [if_neg (by simp)] at hk
    by_cases c : K t = tmn dp
    · exact ⟨.ok (t, a), up ⟨0, fun m _ => by rw [pS_s, if_pos c]⟩, fun t' s q => by cases q; exact ⟨fun q => absurd q (by simp), Nat.le_refl _, ht, fun _ => c⟩⟩
    · obtain ⟨r1, ⟨n1, g1⟩, g2⟩ := ih' none dp lp (i + a.1.length) a.2.2.2 t ht (by rw [if_pos rfl]; omega)
      match r1, g1, g2 with
      | .error x, g1, _ => exact ⟨.error x, up ⟨n1, fun m hm => by rw [pS_s, if_neg c, show pS X K N B V m none dp lp (i + a.1.length) a.2.2.2 t = _ from g1 m hm]; rfl⟩, fun _ _ q => by cases q⟩
      | .ok (t1, s1), g1, g2 =>
        obtain ⟨b1, b2, b3, -⟩ := g2 t1 s1 rfl
        have := (b1 rfl).1
        obtain ⟨r2, ⟨n2, g3⟩, g4⟩ := ih' (some (sApp a s1)) dp lp i as t1 b3 (by rw [if_neg (by simp)]; omega)
        refine ⟨r2, up ⟨max n1 n2, fun m hm => by rw [pS_s, if_neg c, show pS X K N B V m none dp lp (i + a.1.length) a.2.2.2 t = _ from g1 m (by omega)]; exact g3 m (by omega)⟩, fun t' s q => ?_⟩
        obtain ⟨d1, d2, d3, d4⟩ := g4 t' s q
        exact ⟨fun q => absurd q (by simp), by omega, d3, fun _ => d4 (by simp)⟩
  | none =>
    rw [if_pos rfl] at hk
    have er : ∀ x, (∀ m, pS X K N B V (m + 1) none dp lp i as t = some (.error x)) → ∃ r, enf (fun m => pS X K N B V m none dp lp i as t) r ∧ ∀ t' s, r = .ok (t', s) → (none = (none : Option q_Sm) → t < t' ∧ dp ≤ 30) ∧ t ≤ t' ∧ t' ≤ T ∧ (none ≠ (none : Option q_Sm) → K t' = tmn dp) := fun x h => ⟨.error x, up ⟨0, fun m _ => h m⟩, fun _ _ q => by cases q⟩
    have okk : ∀ t' s, (∃ n, ∀ m, n ≤ m → pS X K N B V (m + 1) none dp lp i as t = some (.ok (t', s))) → t < t' → t' ≤ T → dp ≤ 30 → ∃ r, enf (fun m => pS X K N B V m none dp lp i as t) r ∧ ∀ t' s, r = .ok (t', s) → (none = (none : Option q_Sm) → t < t' ∧ dp ≤ 30) ∧ t ≤ t' ∧ t' ≤ T ∧ (none ≠ (none : Option q_Sm) → K t' = tmn dp) := fun t' s h h1 h2 h3 => ⟨.ok (t', s), up h, fun t2 s2 q => by cases q; exact ⟨fun _ => ⟨h1, h3⟩, by omega, h2, fun q => absurd rfl q⟩⟩
    have ern : ∀ x, (∃ n, ∀ m, n ≤ m → pS X K N B V (m + 1) none dp lp i as t = some (.error x)) → ∃ r, enf (fun m => pS X K N B V m none dp lp i as t) r ∧ ∀ t' s, r = .ok (t', s) → (none = (none : Option q_Sm) → t < t' ∧ dp ≤ 30) ∧ t ≤ t' ∧ t' ≤ T ∧ (none ≠ (none : Option q_Sm) → K t' = tmn dp) := fun x h => ⟨.error x, up h, fun _ _ q => by cases q⟩
    have nT : ∀ {u : Nat} {k : Int}, K u = k → k ≠ 46 → u ≤ T → u < T := fun {u k} h1 h2 h3 => by
      rcases Nat.lt_or_ge u T with q | q
      · exact q
      · rw [show u = T by omega, hT] at h1; exact absurd h1.symm h2
    by_cases c0 : 30 < dp
    · exact er t (fun m => by rw [pS_1, if_pos c0])
    by_cases c1 : K t = 30
    · have := nT c1 (by decide) ht
      by_cases c2 : K (t + 1) = 31
      · have := nT c2 (by decide) (by omega)
        cases hx : X dp (t + 2) with
        | error x => exact er x (fun m => by rw [pS_1, if_neg c0, if_pos c1, if_pos c2, hx]; rfl)
        | ok q =>
          obtain ⟨t1, e⟩ := q
          obtain ⟨b1, b2, b3⟩ := XO_ok hT hX (by omega) hx
          by_cases c3 : K t1 = 32
          · have := nT c3 (by decide) b2
            exact okk (t1 + 1) (sSet N B t e as) ⟨0, fun m _ => by rw [pS_1, if_neg c0, if_pos c1, if_pos c2, hx]; show (if K t1 = 32 then _ else _) = _; rw [if_pos c3]⟩ (by omega) (by omega) (by omega)
          · exact er t1 (fun m => by rw [pS_1, if_neg c0, if_pos c1, if_pos c2, hx]; show (if K t1 = 32 then _ else _) = _; rw [if_neg c3])
      · exact er (t + 1) (fun m => by rw [pS_1, if_neg c0, if_pos c1, if_neg c2])
    by_cases c2 : K t = 44 ∨ K t = 45
    · have : t < T := by rcases c2 with q | q <;> exact nT q (by decide) ht
      cases hx : X dp (t + 1) with
      | error x => exact er x (fun m => by rw [pS_1, if_neg c0, if_neg c1, if_pos c2, hx]; rfl)
      | ok q =>
        obtain ⟨t1, e⟩ := q
        obtain ⟨b1, b2, b3⟩ := XO_ok hT hX (by omega) hx
        by_cases c3 : K t1 = 32
        · have := nT c3 (by decide) b2
          exact okk (t1 + 1) (sCla (K t) e as) ⟨0, fun m _ => by rw [pS_1, if_neg c0, if_neg c1, if_pos c2, hx]; show (if K t1 = 32 then _ else _) = _; rw [if_pos c3]⟩ (by omega) (by omega) (by omega)
        · exact er t1 (fun m => by rw [pS_1, if_neg c0, if_neg c1, if_pos c2, hx]; show (if K t1 = 32 then _ else _) = _; rw [if_neg c3])
    by_cases c3 : K t = 41
    · have := nT c3 (by decide) ht
      by_cases c4 : K (t + 1) = 35
      · have := nT c4 (by decide) (by omega)
        cases hx : X (dp + 1) (t + 2) with
        | error x => exact er x (fun m => by rw [pS_1, if_neg c0, if_neg c1, if_neg c2, if_pos c3, if_pos c4, hx]; rfl)
        | ok q =>
          obtain ⟨t1, e⟩ := q
          obtain ⟨b1, b2, b3⟩ := XO_ok hT hX (by omega) hx
          by_cases c5 : K t1 = 36
          · have := nT c5 (by decide) b2
            obtain ⟨r1, ⟨n1, g1⟩, g2⟩ := ih' none (dp + 1) lp (i + 1) as (t1 + 1) (by omega) (by rw [if_pos rfl]; omega)
            match r1, g1, g2 with
            | .error x, g1, _ => exact ern x ⟨n1, fun m hm => by rw [pS_1, if_neg c0, if_neg c1, if_neg c2, if_pos c3, if_pos c4, hx]; show (if K t1 = 36 then _ else _) = _; rw [if_pos c5, show pS X K N B V m none (dp + 1) lp (i + 1) as (t1 + 1) = _ from g1 m hm]; rfl⟩
            | .ok (t2, s2), g1, g2 =>
              obtain ⟨d1, d2, d3, -⟩ := g2 t2 s2 rfl
              by_cases c6 : K t2 = 42
              · have := nT c6 (by decide) d3
                obtain ⟨r2, ⟨n2, g3⟩, g4⟩ := ih' none (dp + 1) lp (i + 1 + s2.1.length + 1) s2.2.2.2 (t2 + 1) (by omega) (by rw [if_pos rfl]; omega)
                match r2, g3, g4 with
                | .error x, g3, _ => exact ern x ⟨max n1 n2, fun m hm => by rw [pS_1, if_neg c0, if_neg c1, if_neg c2, if_pos c3, if_pos c4, hx]; show (if K t1 = 36 then _ else _) = _; rw [if_pos c5, show pS X K N B V m none (dp + 1) lp (i + 1) as (t1 + 1) = _ from g1 m (by omega)]; show (if K t2 = 42 then _ else _) = _; rw [if_pos c6, show pS X K N B V m none (dp + 1) lp (i + 1 + s2.1.length + 1) s2.2.2.2 (t2 + 1) = _ from g3 m (by omega)]; rfl⟩
                | .ok (t3, s3), g3, g4 =>
                  obtain ⟨f1, f2, f3, -⟩ := g4 t3 s3 rfl
                  exact okk t3 (sElse V i e s2 s3) ⟨max n1 n2, fun m hm => by rw [pS_1, if_neg c0, if_neg c1, if_neg c2, if_pos c3, if_pos c4, hx]; show (if K t1 = 36 then _ else _) = _; rw [if_pos c5, show pS X K N B V m none (dp + 1) lp (i + 1) as (t1 + 1) = _ from g1 m (by omega)]; show (if K t2 = 42 then _ else _) = _; rw [if_pos c6, show pS X K N B V m none (dp + 1) lp (i + 1 + s2.1.length + 1) s2.2.2.2 (t2 + 1) = _ from g3 m (by omega)]; rfl⟩ (by omega) f3 (by omega)
              · exact okk t2 (sIf V i e s2) ⟨n1, fun m hm => by rw [pS_1, if_neg c0, if_neg c1, if_neg c2, if_pos c3, if_pos c4, hx]; show (if K t1 = 36 then _ else _) = _; rw [if_pos c5, show pS X K N B V m none (dp + 1) lp (i + 1) as (t1 + 1) = _ from g1 m (by omega)]; show (if K t2 = 42 then _ else _) = _; rw [if_neg c6]⟩ (by omega) d3 (by omega)
          · exact er t1 (fun m => by rw [pS_1, if_neg c0, if_neg c1, if_neg c2, if_pos c3, if_pos c4, hx]; show (if K t1 = 36 then _ else _) = _; rw [if_neg c5])
      · exact er (t + 1) (fun m => by rw [pS_1, if_neg c0, if_neg c1, if_neg c2, if_pos c3, if_neg c4])
    by_cases c4 : K t = 43
    · have := nT c4 (by decide) ht
      by_cases c5 : K (t + 1) = 23
      · have := nT c5 (by decide) (by omega)
        by_cases c6 : K (t + 2) = 35
        · have := nT c6 (by decide) (by omega)
          cases hx : X (dp + 1) (t + 3) with
          | error x => exact er x (fun m => by rw [pS_1, if_neg c0, if_neg c1, if_neg c2, if_neg c3, if_pos c4, if_pos c5, if_pos c6, hx]; rfl)
          | ok q =>
            obtain ⟨t1, e⟩ := q
            obtain ⟨b1, b2, b3⟩ := XO_ok hT hX (by omega) hx
            by_cases c7 : K t1 = 36
            · have := nT c7 (by decide) b2
              obtain ⟨r1, ⟨n1, g1⟩, g2⟩ := ih' none (dp + 1) (lp + 1) (i + 2) as (t1 + 1) (by omega) (by rw [if_pos rfl]; omega)
              match r1, g1, g2 with
              | .error x, g1, _ => exact ern x ⟨n1, fun m hm => by rw [pS_1, if_neg c0, if_neg c1, if_neg c2, if_neg c3, if_pos c4, if_pos c5, if_pos c6, hx]; show (if K t1 = 36 then _ else _) = _; rw [if_pos c7, show pS X K N B V m none (dp + 1) (lp + 1) (i + 2) as (t1 + 1) = _ from g1 m hm]; rfl⟩
              | .ok (t2, s2), g1, g2 =>
                obtain ⟨d1, d2, d3, -⟩ := g2 t2 s2 rfl
                exact okk t2 (sWhi V i lp (N (t + 1)).2.1 (t + 1) e s2) ⟨n1, fun m hm => by rw [pS_1, if_neg c0, if_neg c1, if_neg c2, if_neg c3, if_pos c4, if_pos c5, if_pos c6, hx]; show (if K t1 = 36 then _ else _) = _; rw [if_pos c7, show pS X K N B V m none (dp + 1) (lp + 1) (i + 2) as (t1 + 1) = _ from g1 m (by omega)]; rfl⟩ (by omega) d3 (by omega)
            · exact er t1 (fun m => by rw [pS_1, if_neg c0, if_neg c1, if_neg c2, if_neg c3, if_pos c4, if_pos c5, if_pos c6, hx]; show (if K t1 = 36 then _ else _) = _; rw [if_neg c7])
        · exact er (t + 2) (fun m => by rw [pS_1, if_neg c0, if_neg c1, if_neg c2, if_neg c3, if_pos c4, if_pos c5, if_neg c6])
      · exact er (t + 1) (fun m => by rw [pS_1, if_neg c0, if_neg c1, if_neg c2, if_neg c3, if_pos c4, if_neg c5])
    by_cases c5 : K t = 37
    · have := nT c5 (by decide) ht
      obtain ⟨r1, ⟨n1, g1⟩, g2⟩ := ih' (some ([], 0, none, as)) (dp + 1) lp i as (t + 1) (by omega) (by rw [if_neg (by simp)]; omega)
      match r1, g1, g2 with
      | .error x, g1, _ => exact ern x ⟨n1, fun m hm => by rw [pS_1, if_neg c0, if_neg c1, if_neg c2, if_neg c3, if_neg c4, if_pos c5, show pS X K N B V m (some ([], 0, none, as)) (dp + 1) lp i as (t + 1) = _ from g1 m hm]; rfl⟩
      | .ok (t2, s2), g1, g2 =>
        obtain ⟨d1, d2, d3, d4⟩ := g2 t2 s2 rfl
        have d5 := d4 (by simp)
        unfold tmn at d5
        rw [if_neg (by omega)] at d5
        have := nT d5 (by decide) d3
        exact okk (t2 + 1) s2 ⟨n1, fun m hm => by rw [pS_1, if_neg c0, if_neg c1, if_neg c2, if_neg c3, if_neg c4, if_pos c5, show pS X K N B V m (some ([], 0, none, as)) (dp + 1) lp i as (t + 1) = _ from g1 m hm]; rfl⟩ (by omega) (by omega) (by omega)
    · exact er t (fun m => by rw [pS_1, if_neg c0, if_neg c1, if_neg c2, if_neg c3, if_neg c4, if_neg c5])
end PsP
