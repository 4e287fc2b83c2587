/-! the class's STATEMENTS: a stack of those that are open -/
/-- an open one: its kind, the step that waits for its goal, rounds, WORK of its test, WORK inside -/
abbrev q_Fr : Type := Int × Nat × Int × Nat × Nat
abbrev q_Cs : Type := Nat × List q_Fr × List q_St × Nat × Nat × Option (Int × Nat)
def stG : List q_St → Nat → Int → List q_St
  | [], _, _ => []
  | x :: l, 0, g => (x.1, x.2.1, g, x.2.2.2) :: l
  | x :: l, j + 1, g => x :: stG l j g
theorem stG_app : ∀ (a : List q_St) (x : q_St) (b : List q_St) (g : Int), stG (a ++ x :: b) a.length g = a ++ (x.1, x.2.1, g, x.2.2.2) :: b
  | [], x, b, g => rfl
  | y :: a, x, b, g => by show y :: stG (a ++ x :: b) a.length g = _; rw [stG_app a x b g]; rfl
theorem stG_at {a : List q_St} {x : q_St} {b : List q_St} {g : Int} {j : Nat} (h : j = a.length) : stG (a ++ x :: b) j g = a ++ (x.1, x.2.1, g, x.2.2.2) :: b := by rw [h]; exact stG_app a x b g
theorem stG_len : ∀ (a : List q_St) (j : Nat) (g : Int), (stG a j g).length = a.length
  | [], _, _ => rfl
  | x :: a, 0, g => rfl
  | x :: a, j + 1, g => by show (stG a j g).length + 1 = _; rw [stG_len a j g]; rfl
/-- a STATEMENT of so much WORK ends -/
def cF (K : Nat → Int) (V : Nat) : List q_Fr → Nat → List q_St → Nat → Nat → Nat × List q_Fr × List q_St × Nat
  | [], t, st, m, w => (t, [], st, w + m)
  | f :: S, t, st, m, w =>
    if f.1 = 1 then (t, (f.1, f.2.1, f.2.2.1, f.2.2.2.1, f.2.2.2.2 + m) :: S, st, w)
    else if f.1 = 2 ∧ K t = 42 then (t + 1, (3, st.length, f.2.2.1, f.2.2.2.1, f.2.2.2.2 + m) :: S, stG (st ++ [(5, 0, 0, [])]) f.2.1 ((st.length + 1 : Nat) : Int), w)
    else if f.1 = 4 then cF K V S t (stG (st ++ [(9, 0, (f.2.1 : Int), [])]) f.2.1 ((st.length + 1 : Nat) : Int)) (f.2.2.1.toNat * (f.2.2.2.1 + (f.2.2.2.2 + m) + 8 * V) + f.2.2.2.1) w
    else cF K V S t (stG (st ++ [(6, 0, 0, [])]) f.2.1 ((st.length : Nat) : Int)) (f.2.2.2.1 + (f.2.2.2.2 + m) + 8 * V) w
def cE (K : Nat → Int) (V : Nat) (C : q_Cs) (m : Nat) : q_Cs :=
  ((cF K V C.2.1 C.1 C.2.2.1 m C.2.2.2.2.1).1, (cF K V C.2.1 C.1 C.2.2.1 m C.2.2.2.2.1).2.1, (cF K V C.2.1 C.1 C.2.2.1 m C.2.2.2.2.1).2.2.1, C.2.2.2.1, (cF K V C.2.1 C.1 C.2.2.1 m C.2.2.2.2.1).2.2.2, C.2.2.2.2.2)
def lpS : List q_Fr → Nat
  | [] => 0
  | f :: S => (if f.1 = 4 then 1 else 0) + lpS S
def bnC (x : q_PR) (f : Nat → q_Ex → Option (Except Nat q_Cs)) : Option (Except Nat q_Cs) :=
  match x with
  | .error e => some (.error e)
  | .ok (t, e) => f t e
def cCl (S : List q_Fr) (er : Option (Except Nat q_Cs)) (f : q_Fr → List q_Fr → Option (Except Nat q_Cs)) : Option (Except Nat q_Cs) :=
  match S with
  | [] => er
  | x :: S => if x.1 = 1 then f x S else er
def cS (X : Nat → Nat → q_PR) (K : Nat → Int) (N : Nat → q_It) (B : Nat → Bool) (V : Nat) : Nat → q_Cs → Option (Except Nat q_Cs)
  | 0, _ => none
  | n + 1, (t, S, st, as, w, f) =>
    if 30 < S.length ∧ K t ≠ 38 then some (.error t)
    else if K t = 30 then
      if K (t + 1) = 31 then bnC (X S.length (t + 2)) (fun t1 e => if K t1 = 32 then cS X K N B V n (cE K V (t1 + 1, S, st ++ [(1, tgV N t, 0, e.1)], as, w, (f.or (tgF N B t)).or (xF e)) (e.2.2.1 + 8)) else some (.error t1))
      else some (.error (t + 1))
    else if K t = 44 ∨ K t = 45 then bnC (X S.length (t + 1)) (fun t1 e => if K t1 = 32 then cS X K N B V n (cE K V (t1 + 1, S, st ++ [(if K t = 44 then 2 else 3, (as : Int), 0, e.1)], if K t = 44 then as + 1 else as, w, f.or (xF e)) (e.2.2.1 + 8)) else some (.error t1))
    else if K t = 41 then
      if K (t + 1) = 35 then bnC (X (S.length + 1) (t + 2)) (fun t1 e => if K t1 = 36 then cS X K N B V n (t1 + 1, (2, st.length, 0, e.2.2.1, 0) :: S, st ++ [(4, 0, 0, e.1)], as, w, f.or (xF e)) else some (.error t1))
      else some (.error (t + 1))
    else if K t = 43 then
      if K (t + 1) = 23 then
        if K (t + 2) = 35 then bnC (X (S.length + 1) (t + 3)) (fun t1 e => if K t1 = 36 then cS X K N B V n (t1 + 1, (4, st.length + 1, (N (t + 1)).2.1, e.2.2.1, 0) :: S, st ++ [(7, (N (t + 1)).2.1, (lpS S : Int), []), (8, (lpS S : Int), 0, e.1)], as, w, (f.or (lpF (N (t + 1)).2.1 (t + 1))).or (xF e)) else some (.error t1))
        else some (.error (t + 2))
      else some (.error (t + 1))
    else if K t = 37 then cS X K N B V n (t + 1, (1, 0, 0, 0, 0) :: S, st, as, w, f)
    else if K t = 38 then cCl S (some (.error t)) (fun x S' => cS X K N B V n (cE K V (t + 1, S', st, as, w, f) x.2.2.2.2))
    else if K t = 46 ∧ S = [] then some (.ok (t, S, st, as, w, f)) else some (.error t)
section CsP
variable {X : Nat → Nat → q_PR} {K : Nat → Int} {N : Nat → q_It} {B : Nat → Bool} {V : Nat}
theorem cS_s (n t : Nat) (S : List q_Fr) (st : List q_St) (as w : Nat) (f : Option (Int × Nat)) : cS X K N B V (n + 1) (t, S, st, as, w, f) = if 30 < S.length ∧ K t ≠ 38 then some (.error t)
    else if K t = 30 then
      if K (t + 1) = 31 then bnC (X S.length (t + 2)) (fun t1 e => if K t1 = 32 then cS X K N B V n (cE K V (t1 + 1, S, st ++ [(1, tgV N t, 0, e.1)], as, w, (f.or (tgF N B t)).or (xF e)) (e.2.2.1 + 8)) else some (.error t1))
      else some (.error (t + 1))
    else if K t = 44 ∨ K t = 45 then bnC (X S.length (t + 1)) (fun t1 e => if K t1 = 32 then cS X K N B V n (cE K V (t1 + 1, S, st ++ [(if K t = 44 then 2 else 3, (as : Int), 0, e.1)], if K t = 44 then as + 1 else as, w, f.or (xF e)) (e.2.2.1 + 8)) else some (.error t1))
    else if K t = 41 then
      if K (t + 1) = 35 then bnC (X (S.length + 1) (t + 2)) (fun t1 e => if K t1 = 36 then cS X K N B V n (t1 + 1, (2, st.length, 0, e.2.2.1, 0) :: S, st ++ [(4, 0, 0, e.1)], as, w, f.or (xF e)) else some (.error t1))
      else some (.error (t + 1))
    else if K t = 43 then
      if K (t + 1) = 23 then
        if K (t + 2) = 35 then bnC (X (S.length + 1) (t + 3)) (fun t1 e => if K t1 = 36 then cS X K N B V n (t1 + 1, (4, st.length + 1, (N (t + 1)).2.1, e.2.2.1, 0) :: S, st ++ [(7, (N (t + 1)).2.1, (lpS S : Int), []), (8, (lpS S : Int), 0, e.1)], as, w, (f.or (lpF (N (t + 1)).2.1 (t + 1))).or (xF e)) else some (.error t1))
        else some (.error (t + 2))
      else some (.error (t + 1))
    else if K t = 37 then cS X K N B V n (t + 1, (1, 0, 0, 0, 0) :: S, st, as, w, f)
    else if K t = 38 then cCl S (some (.error t)) (fun x S' => cS X K N B V n (cE K V (t + 1, S', st, as, w, f) x.2.2.2.2))
    else if K t = 46 ∧ S = [] then some (.ok (t, S, st, as, w, f)) else some (.error t) := by
  conv => lhs; unfold cS
theorem pS_stop : ∀ (n : Nat) (a : q_Sm) (dp lp i as t t' : Nat) (s : q_Sm), pS X K N B V n (some a) dp lp i as t = some (.ok (t', s)) → K t' = tmn dp
  | 0, _, _, _, _, _, _, _, _, h => by unfold pS at h; cases h
  | n + 1, a, dp, lp, i, as, t, t', s, h => by
    rw [pS_s] at h
    by_cases c : K t = tmn dp
    · rw [if_pos c] at h; cases h; exact c
    · rw [if_neg c] at h
      rcases bnS_some h with ⟨x, -, q⟩ | ⟨t1, s1, -, q2⟩
      · cases q
      · exact pS_stop n _ dp lp i as t1 t' s q2
/-- one STATEMENT -/
def SA (X : Nat → Nat → q_PR) (K : Nat → Int) (N : Nat → q_It) (B : Nat → Bool) (V n : Nat) : Prop := ∀ (dp lp i as t : Nat) (r : q_SR), pS X K N B V n none dp lp i as t = some r → ∀ (S : List q_Fr) (st : List q_St) (w : Nat) (f : Option (Int × Nat)), S.length = dp → lpS S = lp → st.length = i → (K t = 38 → ∀ x S', S = x :: S' → x.1 ≠ 1) → (K t = 46 → S ≠ []) →
  (∀ x, r = .error x → ∃ m, cS X K N B V m (t, S, st, as, w, f) = some (.error x)) ∧ ∀ t' s, r = .ok (t', s) → ∀ m r', cS X K N B V m (cE K V (t', S, st ++ s.1, s.2.2.2, w, f.or s.2.2.1) s.2.1) = some r' → ∃ m', cS X K N B V m' (t, S, st, as, w, f) = some r'
/-- STATEMENTS up to their end -/
def SB (X : Nat → Nat → q_PR) (K : Nat → Int) (N : Nat → q_It) (B : Nat → Bool) (V n : Nat) : Prop := ∀ (a : q_Sm) (dp lp i as t : Nat) (r : q_SR), pS X K N B V n (some a) dp lp i as t = some r → ∀ (S : List q_Fr) (st : List q_St) (w : Nat) (f : Option (Int × Nat)), S.length = dp → lpS S = lp → st.length = i → (∀ x S', S = x :: S' → x.1 = 1) →
  (∀ x, r = .error x → ∃ m, cS X K N B V m (cE K V (t, S, st ++ a.1, a.2.2.2, w, f.or a.2.2.1) a.2.1) = some (.error x)) ∧ ∀ t' s, r = .ok (t', s) → ∀ m r', cS X K N B V m (cE K V (t', S, st ++ s.1, s.2.2.2, w, f.or s.2.2.1) s.2.1) = some r' → ∃ m', cS X K N B V m' (cE K V (t, S, st ++ a.1, a.2.2.2, w, f.or a.2.2.1) a.2.1) = some r'
/-- behind STATEMENTS in a block or in the TEXT -/
theorem cE_flat {S : List q_Fr} {t as w m : Nat} {st : List q_St} {f : Option (Int × Nat)} (hS : ∀ x S', S = x :: S' → x.1 = 1) : ∃ S2 w2, cE K V (t, S, st, as, w, f) m = (t, S2, st, as, w2, f) ∧ S2.length = S.length ∧ lpS S2 = lpS S ∧ (∀ x S', S2 = x :: S' → x.1 = 1) ∧ ∀ t' st' as' f' m', cE K V (t', S2, st', as', w2, f') m' = cE K V (t', S, st', as', w, f') (m + m') := by
  cases S with
  | nil => exact ⟨[], w + m, rfl, rfl, rfl, hS, fun t' st' as' f' m' => by unfold cE cF; simp only [Nat.add_assoc]⟩
  | cons x S =>
    have h1 := hS x S rfl
    obtain ⟨a, b, c, d, e⟩ := x
    simp only at h1
    subst h1
    refine ⟨(1, b, c, d, e + m) :: S, w, rfl, rfl, rfl, fun y S' q => ?_, fun t' st' as' f' m' => ?_⟩
    · cases q; rfl
    · unfold cE cF; simp only [if_pos, Nat.add_assoc]
theorem SB_of {n : Nat} (ha : SA X K N B V n) (hb : SB X K N B V n) : SB X K N B V (n + 1) := by
  intro a dp lp i as t r h S st w f hl hp hi hS
  rw [pS_s] at h
  by_cases c : K t = tmn dp
  · rw [if_pos c] at h
    cases h
    exact ⟨fun x q => (by cases q), fun t' s q m r' g => by cases q; exact ⟨m, g⟩⟩
  · rw [if_neg c] at h
    obtain ⟨S2, w2, e1, e2, e3, e4, e5⟩ := cE_flat (K := K) (V := V) (t := t) (as := a.2.2.2) (w := w) (m := a.2.1) (st := st ++ a.1) (f := f.or a.2.2.1) hS
    rw [e1]
    have n38 : K t = 38 → ∀ x S', S2 = x :: S' → x.1 ≠ 1 := fun q x S' q2 => by
      unfold tmn at c
      rw [if_neg (by rw [← hl, ← e2, q2]; simp)] at c
      exact absurd q c
    have n46 : K t = 46 → S2 ≠ [] := fun q q2 => by
      unfold tmn at c
      rw [if_pos (by rw [← hl, ← e2, q2]; rfl)] at c
      exact absurd q c
    rcases bnS_some h with ⟨x, q1, q2⟩ | ⟨t1, s1, q1, q2⟩
    · obtain ⟨g, -⟩ := ha _ _ _ _ _ _ q1 S2 (st ++ a.1) w2 (f.or a.2.2.1) (e2.trans hl) (e3.trans hp) (by simp; omega) n38 n46
      obtain ⟨m, g⟩ := g x rfl
      exact ⟨fun y q => (by rw [q2] at q; cases q; exact ⟨m, g⟩), fun t' s q => by rw [q2] at q; cases q⟩
    · obtain ⟨-, g⟩ := ha _ _ _ _ _ _ q1 S2 (st ++ a.1) w2 (f.or a.2.2.1) (e2.trans hl) (e3.trans hp) (by simp; omega) n38 n46
      have eq : cE K V (t1, S2, st ++ a.1 ++ s1.1, s1.2.2.2, w2, (f.or a.2.2.1).or s1.2.2.1) s1.2.1 = cE K V (t1, S, st ++ (sApp a s1).1, (sApp a s1).2.2.2, w, f.or (sApp a s1).2.2.1) (sApp a s1).2.1 := by
        rw [e5]
        unfold sApp
        dsimp only
        rw [List.append_assoc, Option.or_assoc]
      have g' := g t1 s1 rfl
      rw [eq] at g'
      obtain ⟨b1, b2⟩ := hb _ _ _ _ _ _ _ q2 S st w f hl hp hi hS
      refine ⟨fun x q => ?_, fun t' s q m r' k => ?_⟩
      · obtain ⟨m, k⟩ := b1 x q
        exact g' m _ k
      · obtain ⟨m2, k2⟩ := b2 t' s q m r' k
        exact g' m2 _ k2
theorem SA_of {n : Nat} (ha : SA X K N B V n) (hb : SB X K N B V n) : SA X K N B V (n + 1) := by
  intro dp lp i as t r h S st w f hl hp hi h38 h46
  rw [pS_1] at h
  have er : ∀ x, r = .error x → (∃ m, cS X K N B V m (t, S, st, as, w, f) = some (.error x)) → (∀ x, r = .error x → ∃ m, cS X K N B V m (t, S, st, as, w, f) = some (.error x)) ∧ ∀ t' s, r = .ok (t', s) → ∀ m r', cS X K N B V m (cE K V (t', S, st ++ s.1, s.2.2.2, w, f.or s.2.2.1) s.2.1) = some r' → ∃ m', cS X K N B V m' (t, S, st, as, w, f) = some r' := fun x e g => ⟨fun y q => (by rw [e] at q; cases q; exact g), fun t' s q => by rw [e] at q; cases q⟩
  by_cases c0 : 30 < dp
  · rw [if_pos c0] at h
    refine er t (Option.some.inj h).symm ⟨1, ?_⟩
    rw [cS_s]
    by_cases q : K t = 38
    · rw [if_neg (fun k => k.2 q), if_neg (by omega), if_neg (by omega), if_neg (by omega), if_neg (by omega), if_neg (by omega), if_pos q]
      cases S with
      | nil => rfl
      | cons x S => show (if x.1 = 1 then _ else _) = _; rw [if_neg (h38 q x S rfl)]
    · rw [if_pos ⟨by omega, q⟩]
  rw [if_neg c0] at h
  have d0 : ¬ (30 < S.length ∧ K t ≠ 38) := fun q => by omega
  by_cases c1 : K t = 30
  · rw [if_pos c1] at h
    have u : ∀ m, cS X K N B V (m + 1) (t, S, st, as, w, f) = if K (t + 1) = 31 then bnC (X dp (t + 2)) (fun t1 e => if K t1 = 32 then cS X K N B V m (cE K V (t1 + 1, S, st ++ [(1, tgV N t, 0, e.1)], as, w, (f.or (tgF N B t)).or (xF e)) (e.2.2.1 + 8)) else some (.error t1))
      else some (.error (t + 1)) := fun m => by rw [cS_s, if_neg d0, if_pos c1, hl]
    by_cases c2 : K (t + 1) = 31
    · rw [if_pos c2] at h
      rcases bnX_some h with ⟨x, q1, q2⟩ | ⟨t1, e, q1, q2⟩
      · exact er x q2 ⟨1, by rw [u, if_pos c2, q1]; rfl⟩
      · by_cases c3 : K t1 = 32
        · rw [if_pos c3] at q2
          cases q2
          refine ⟨fun x q => (by cases q), fun t' s q m r' g => ⟨m + 1, ?_⟩⟩
          cases q
          rw [u, if_pos c2, q1]
          show (if K t1 = 32 then _ else _) = _
          rw [if_pos c3, ← g, Option.or_assoc]; rfl
        · rw [if_neg c3] at q2
          exact er t1 (Option.some.inj q2).symm ⟨1, by rw [u, if_pos c2, q1]; show (if K t1 = 32 then _ else _) = _; rw [if_neg c3]⟩
    · rw [if_neg c2] at h
      exact er (t + 1) (Option.some.inj h).symm ⟨1, by rw [u, if_neg c2]⟩
  rw [if_neg c1] at h
  by_cases c2 : K t = 44 ∨ K t = 45
  · rw [if_pos c2] at h
    have u : ∀ m, cS X K N B V (m + 1) (t, S, st, as, w, f) = bnC (X dp (t + 1)) (fun t1 e => if K t1 = 32 then cS X K N B V m (cE K V (t1 + 1, S, st ++ [(if K t = 44 then 2 else 3, (as : Int), 0, e.1)], if K t = 44 then as + 1 else as, w, f.or (xF e)) (e.2.2.1 + 8)) else some (.error t1)) := fun m => by rw [cS_s, if_neg d0, if_neg c1, if_pos c2, hl]
    rcases bnX_some h with ⟨x, q1, q2⟩ | ⟨t1, e, q1, q2⟩
    · exact er x q2 ⟨1, by rw [u, q1]; rfl⟩
    · by_cases c3 : K t1 = 32
      · rw [if_pos c3] at q2
        cases q2
        refine ⟨fun x q => (by cases q), fun t' s q m r' g => ⟨m + 1, ?_⟩⟩
        cases q
        rw [u, q1]
        show (if K t1 = 32 then _ else _) = _
        rw [if_pos c3, ← g]; rfl
      · rw [if_neg c3] at q2
        exact er t1 (Option.some.inj q2).symm ⟨1, by rw [u, q1]; show (if K t1 = 32 then _ else _) = _; rw [if_neg c3]⟩
  rw [if_neg c2] at h
  by_cases c3 : K t = 41
  · rw [if_pos c3] at h
    have u : ∀ m, cS X K N B V (m + 1) (t, S, st, as, w, f) = if K (t + 1) = 35 then bnC (X (dp + 1) (t + 2)) (fun t1 e => if K t1 = 36 then cS X K N B V m (t1 + 1, (2, st.length, 0, e.2.2.1, 0) :: S, st ++ [(4, 0, 0, e.1)], as, w, f.or (xF e)) else some (.error t1))
      else some (.error (t + 1)) := fun m => by rw [cS_s, if_neg d0, if_neg c1, if_neg c2, if_pos c3, hl]
    by_cases c4 : K (t + 1) = 35
    · rw [if_pos c4] at h
      rcases bnX_some h with ⟨x, q1, q2⟩ | ⟨t1, e, q1, q2⟩
      · exact er x q2 ⟨1, by rw [u, if_pos c4, q1]; rfl⟩
      · by_cases c5 : K t1 = 36
        · rw [if_pos c5] at q2
          have u2 : ∀ m, cS X K N B V (m + 1) (t, S, st, as, w, f) = cS X K N B V m (t1 + 1, (2, st.length, 0, e.2.2.1, 0) :: S, st ++ [(4, 0, 0, e.1)], as, w, f.or (xF e)) := fun m => by
            rw [u, if_pos c4, q1]
            show (if K t1 = 36 then _ else _) = _
            rw [if_pos c5]
          have m1 := fun r1 h1 => ha (dp + 1) lp (i + 1) as (t1 + 1) r1 h1 ((2, st.length, 0, e.2.2.1, 0) :: S) (st ++ [(4, 0, 0, e.1)]) w (f.or (xF e)) (by simp; omega) (by show (if (2 : Int) = 4 then 1 else 0) + lpS S = lp; rw [if_neg (by decide)]; omega) (by simp; omega) (fun _ x S' q => by cases q; show (2 : Int) ≠ 1; decide) (fun _ => by simp)
          rcases bnS_some q2 with ⟨x, q3, q4⟩ | ⟨t2, s, q3, q4⟩
          · obtain ⟨g, -⟩ := m1 _ q3
            obtain ⟨m, g⟩ := g x rfl
            exact er x q4 ⟨m + 1, by rw [u2]; exact g⟩
          · obtain ⟨-, g⟩ := m1 _ q3
            have g' := g t2 s rfl
            by_cases c6 : K t2 = 42
            · rw [if_pos c6] at q4
              have eq : cE K V (t2, (2, st.length, 0, e.2.2.1, 0) :: S, st ++ [(4, 0, 0, e.1)] ++ s.1, s.2.2.2, w, (f.or (xF e)).or s.2.2.1) s.2.1 = (t2 + 1, (3, i + 1 + s.1.length, 0, e.2.2.1, 0 + s.2.1) :: S, st ++ (4, 0, ((i + 1 + s.1.length + 1 : Nat) : Int), e.1) :: (s.1 ++ [(5, 0, 0, [])]), s.2.2.2, w, (f.or (xF e)).or s.2.2.1) := by
                unfold cE cF
                dsimp only
                rw [if_neg (by decide), if_pos ⟨rfl, c6⟩]
                have l : (st ++ [(4, 0, 0, e.1)] ++ s.1 : List q_St).length = i + 1 + s.1.length := by simp; omega
                rw [l]
                have a1 : (st ++ [(4, 0, 0, e.1)] ++ s.1 ++ [(5, 0, 0, [])] : List q_St) = st ++ (4, 0, 0, e.1) :: (s.1 ++ [(5, 0, 0, [])]) := by simp
                rw [a1, stG_app]
              rw [eq] at g'
              have m2 := fun r1 h1 => ha (dp + 1) lp (i + 1 + s.1.length + 1) s.2.2.2 (t2 + 1) r1 h1 ((3, i + 1 + s.1.length, 0, e.2.2.1, 0 + s.2.1) :: S) (st ++ (4, 0, ((i + 1 + s.1.length + 1 : Nat) : Int), e.1) :: (s.1 ++ [(5, 0, 0, [])])) w ((f.or (xF e)).or s.2.2.1) (by simp; omega) (by show (if (3 : Int) = 4 then 1 else 0) + lpS S = lp; rw [if_neg (by decide)]; omega) (by simp; omega) (fun _ x S' q => by cases q; show (3 : Int) ≠ 1; decide) (fun _ => by simp)
              rcases bnS_some q4 with ⟨x, q5, q6⟩ | ⟨t3, o, q5, q6⟩
              · obtain ⟨k, -⟩ := m2 _ q5
                obtain ⟨m, k⟩ := k x rfl
                obtain ⟨m', k'⟩ := g' m _ k
                exact er x q6 ⟨m' + 1, by rw [u2]; exact k'⟩
              · obtain ⟨-, k⟩ := m2 _ q5
                have k' := k t3 o rfl
                cases q6
                refine ⟨fun x q => (by cases q), fun t' s' q m r' hm => ?_⟩
                cases q
                have eq2 : cE K V (t3, (3, i + 1 + s.1.length, 0, e.2.2.1, 0 + s.2.1) :: S, st ++ (4, 0, ((i + 1 + s.1.length + 1 : Nat) : Int), e.1) :: (s.1 ++ [(5, 0, 0, [])]) ++ o.1, o.2.2.2, w, ((f.or (xF e)).or s.2.2.1).or o.2.2.1) o.2.1 = cE K V (t3, S, st ++ (sElse V i e s o).1, (sElse V i e s o).2.2.2, w, f.or (sElse V i e s o).2.2.1) (sElse V i e s o).2.1 := by
                  conv => lhs; unfold cE cF
                  dsimp only
                  rw [if_neg (by decide), if_neg (fun q => absurd q.1 (by decide)), if_neg (by decide)]
                  have l : (st ++ (4, 0, ((i + 1 + s.1.length + 1 : Nat) : Int), e.1) :: (s.1 ++ [(5, 0, 0, [])]) ++ o.1 : List q_St).length = i + 1 + s.1.length + 1 + o.1.length := by simp; omega
                  rw [l]
                  have a1 : (st ++ (4, 0, ((i + 1 + s.1.length + 1 : Nat) : Int), e.1) :: (s.1 ++ [(5, 0, 0, [])]) ++ o.1 ++ [(6, 0, 0, [])] : List q_St) = (st ++ (4, 0, ((i + 1 + s.1.length + 1 : Nat) : Int), e.1) :: s.1) ++ (5, 0, 0, []) :: (o.1 ++ [(6, 0, 0, [])]) := by simp
                  have l2 : (st ++ (4, 0, ((i + 1 + s.1.length + 1 : Nat) : Int), e.1) :: s.1 : List q_St).length = i + 1 + s.1.length := by simp; omega
                  rw [a1, stG_at l2.symm]
                  unfold cE sElse
                  dsimp only
                  have w1 : e.2.2.1 + (0 + s.2.1 + o.2.1) + 8 * V = e.2.2.1 + s.2.1 + o.2.1 + 8 * V := by omega
                  rw [w1]
                  simp only [List.append_assoc, List.cons_append, Option.or_assoc]
                rw [eq2] at k'
                obtain ⟨m1', k1⟩ := k' m r' hm
                obtain ⟨m2', k2⟩ := g' m1' _ k1
                exact ⟨m2' + 1, by rw [u2]; exact k2⟩
            · rw [if_neg c6] at q4
              cases q4
              refine ⟨fun x q => (by cases q), fun t' s' q m r' hm => ?_⟩
              cases q
              have eq2 : cE K V (t2, (2, st.length, 0, e.2.2.1, 0) :: S, st ++ [(4, 0, 0, e.1)] ++ s.1, s.2.2.2, w, (f.or (xF e)).or s.2.2.1) s.2.1 = cE K V (t2, S, st ++ (sIf V i e s).1, (sIf V i e s).2.2.2, w, f.or (sIf V i e s).2.2.1) (sIf V i e s).2.1 := by
                conv => lhs; unfold cE cF
                dsimp only
                rw [if_neg (by decide), if_neg (fun q => absurd q.2 c6), if_neg (by decide)]
                have l : (st ++ [(4, 0, 0, e.1)] ++ s.1 : List q_St).length = i + 1 + s.1.length := by simp; omega
                rw [l]
                have a1 : (st ++ [(4, 0, 0, e.1)] ++ s.1 ++ [(6, 0, 0, [])] : List q_St) = st ++ (4, 0, 0, e.1) :: (s.1 ++ [(6, 0, 0, [])]) := by simp
                rw [a1, stG_app]
                unfold cE sIf
                dsimp only
                have w1 : e.2.2.1 + (0 + s.2.1) + 8 * V = e.2.2.1 + s.2.1 + 8 * V := by omega
                rw [w1]
                simp only [Option.or_assoc]
              rw [eq2] at g'
              obtain ⟨m1', k1⟩ := g' m r' hm
              exact ⟨m1' + 1, by rw [u2]; exact k1⟩
        · rw [if_neg c5] at q2
          exact er t1 (Option.some.inj q2).symm ⟨1, by rw [u, if_pos c4, q1]; show (if K t1 = 36 then _ else _) = _; rw [if_neg c5]⟩
    · rw [if_neg c4] at h
      exact er (t + 1) (Option.some.inj h).symm ⟨1, by rw [u, if_neg c4]⟩
  rw [if_neg c3] at h
  by_cases c4 : K t = 43
  · rw [if_pos c4] at h
    have u : ∀ m, cS X K N B V (m + 1) (t, S, st, as, w, f) = if K (t + 1) = 23 then
        if K (t + 2) = 35 then bnC (X (dp + 1) (t + 3)) (fun t1 e => if K t1 = 36 then cS X K N B V m (t1 + 1, (4, st.length + 1, (N (t + 1)).2.1, e.2.2.1, 0) :: S, st ++ [(7, (N (t + 1)).2.1, (lpS S : Int), []), (8, (lpS S : Int), 0, e.1)], as, w, (f.or (lpF (N (t + 1)).2.1 (t + 1))).or (xF e)) else some (.error t1))
        else some (.error (t + 2))
      else some (.error (t + 1)) := fun m => by rw [cS_s, if_neg d0, if_neg c1, if_neg c2, if_neg c3, if_pos c4, hl]
    by_cases c5 : K (t + 1) = 23
    · rw [if_pos c5] at h
      by_cases c6 : K (t + 2) = 35
      · rw [if_pos c6] at h
        rcases bnX_some h with ⟨x, q1, q2⟩ | ⟨t1, e, q1, q2⟩
        · exact er x q2 ⟨1, by rw [u, if_pos c5, if_pos c6, q1]; rfl⟩
        · by_cases c7 : K t1 = 36
          · rw [if_pos c7] at q2
            have u2 : ∀ m, cS X K N B V (m + 1) (t, S, st, as, w, f) = cS X K N B V m (t1 + 1, (4, st.length + 1, (N (t + 1)).2.1, e.2.2.1, 0) :: S, st ++ [(7, (N (t + 1)).2.1, (lpS S : Int), []), (8, (lpS S : Int), 0, e.1)], as, w, (f.or (lpF (N (t + 1)).2.1 (t + 1))).or (xF e)) := fun m => by
              rw [u, if_pos c5, if_pos c6, q1]
              show (if K t1 = 36 then _ else _) = _
              rw [if_pos c7]
            have m1 := fun r1 h1 => ha (dp + 1) (lp + 1) (i + 2) as (t1 + 1) r1 h1 ((4, st.length + 1, (N (t + 1)).2.1, e.2.2.1, 0) :: S) (st ++ [(7, (N (t + 1)).2.1, (lpS S : Int), []), (8, (lpS S : Int), 0, e.1)]) w ((f.or (lpF (N (t + 1)).2.1 (t + 1))).or (xF e)) (by simp; omega) (by show (if (4 : Int) = 4 then 1 else 0) + lpS S = lp + 1; rw [if_pos rfl]; omega) (by simp; omega) (fun _ x S' q => by cases q; show (4 : Int) ≠ 1; decide) (fun _ => by simp)
            rcases bnS_some q2 with ⟨x, q3, q4⟩ | ⟨t2, s, q3, q4⟩
            · obtain ⟨g, -⟩ := m1 _ q3
              obtain ⟨m, g⟩ := g x rfl
              exact er x q4 ⟨m + 1, by rw [u2]; exact g⟩
            · obtain ⟨-, g⟩ := m1 _ q3
              have g' := g t2 s rfl
              cases q4
              refine ⟨fun x q => (by cases q), fun t' s' q m r' hm => ?_⟩
              cases q
              have eq2 : cE K V (t2, (4, st.length + 1, (N (t + 1)).2.1, e.2.2.1, 0) :: S, st ++ [(7, (N (t + 1)).2.1, (lpS S : Int), []), (8, (lpS S : Int), 0, e.1)] ++ s.1, s.2.2.2, w, ((f.or (lpF (N (t + 1)).2.1 (t + 1))).or (xF e)).or s.2.2.1) s.2.1 = cE K V (t2, S, st ++ (sWhi V i lp (N (t + 1)).2.1 (t + 1) e s).1, (sWhi V i lp (N (t + 1)).2.1 (t + 1) e s).2.2.2, w, f.or (sWhi V i lp (N (t + 1)).2.1 (t + 1) e s).2.2.1) (sWhi V i lp (N (t + 1)).2.1 (t + 1) e s).2.1 := by
                conv => lhs; unfold cE cF
                dsimp only
                rw [if_neg (by decide), if_neg (fun q => absurd q.1 (by decide)), if_pos rfl]
                have l : (st ++ [(7, (N (t + 1)).2.1, (lpS S : Int), []), (8, (lpS S : Int), 0, e.1)] ++ s.1 : List q_St).length = i + 2 + s.1.length := by simp; omega
                rw [l]
                have a1 : (st ++ [(7, (N (t + 1)).2.1, (lpS S : Int), []), (8, (lpS S : Int), 0, e.1)] ++ s.1 ++ [(9, 0, ((st.length + 1 : Nat) : Int), [])] : List q_St) = (st ++ [(7, (N (t + 1)).2.1, (lpS S : Int), [])]) ++ (8, (lpS S : Int), 0, e.1) :: (s.1 ++ [(9, 0, ((st.length + 1 : Nat) : Int), [])]) := by simp
                have l2 : (st ++ [(7, (N (t + 1)).2.1, (lpS S : Int), [])] : List q_St).length = st.length + 1 := by simp
                rw [a1, stG_at l2.symm]
                unfold cE sWhi
                dsimp only
                have w1 : e.2.2.1 + (0 + s.2.1) + 8 * V = e.2.2.1 + s.2.1 + 8 * V := by omega
                rw [w1, hp, hi]
                simp only [List.append_assoc, List.cons_append, List.nil_append, Option.or_assoc]
              rw [eq2] at g'
              obtain ⟨m1', k1⟩ := g' m r' hm
              exact ⟨m1' + 1, by rw [u2]; exact k1⟩
          · rw [if_neg c7] at q2
            exact er t1 (Option.some.inj q2).symm ⟨1, by rw [u, if_pos c5, if_pos c6, q1]; show (if K t1 = 36 then _ else _) = _; rw [if_neg c7]⟩
      · rw [if_neg c6] at h
        exact er (t + 2) (Option.some.inj h).symm ⟨1, by rw [u, if_pos c5, if_neg c6]⟩
    · rw [if_neg c5] at h
      exact er (t + 1) (Option.some.inj h).symm ⟨1, by rw [u, if_neg c5]⟩
  rw [if_neg c4] at h
  by_cases c5 : K t = 37
  · rw [if_pos c5] at h
    have u : ∀ m, cS X K N B V (m + 1) (t, S, st, as, w, f) = cS X K N B V m (t + 1, (1, 0, 0, 0, 0) :: S, st, as, w, f) := fun m => by rw [cS_s, if_neg d0, if_neg c1, if_neg c2, if_neg c3, if_neg c4, if_pos c5]
    have m1 := fun r1 h1 => hb ([], 0, none, as) (dp + 1) lp i as (t + 1) r1 h1 ((1, 0, 0, 0, 0) :: S) st w f (by simp; omega) (by show (if (1 : Int) = 4 then 1 else 0) + lpS S = lp; rw [if_neg (by decide)]; omega) hi (fun x S' q => by cases q; rfl)
    have eq : cE K V (t + 1, (1, 0, 0, 0, 0) :: S, st ++ ([] : List q_St), as, w, f.or none) 0 = (t + 1, (1, 0, 0, 0, 0) :: S, st, as, w, f) := by
      unfold cE cF
      dsimp only
      rw [if_pos rfl, List.append_nil, Option.or_none]
    dsimp only at m1
    rw [eq] at m1
    rcases bnS_some h with ⟨x, q3, q4⟩ | ⟨t2, s, q3, q4⟩
    · obtain ⟨g, -⟩ := m1 _ q3
      obtain ⟨m, g⟩ := g x rfl
      exact er x q4 ⟨m + 1, by rw [u]; exact g⟩
    · obtain ⟨-, g⟩ := m1 _ q3
      have g' := g t2 s rfl
      cases q4
      have k2 : K t2 = 38 := by
        have := pS_stop _ _ _ _ _ _ _ _ _ q3
        unfold tmn at this
        rwa [if_neg (by omega)] at this
      refine ⟨fun x q => (by cases q), fun t' s' q m r' hm => ?_⟩
      cases q
      have kk : cS X K N B V (m + 1) (cE K V (t2, (1, 0, 0, 0, 0) :: S, st ++ s.1, s.2.2.2, w, f.or s.2.2.1) s.2.1) = some r' := by
        have e3 : cE K V (t2, (1, 0, 0, 0, 0) :: S, st ++ s.1, s.2.2.2, w, f.or s.2.2.1) s.2.1 = (t2, (1, 0, 0, 0, 0 + s.2.1) :: S, st ++ s.1, s.2.2.2, w, f.or s.2.2.1) := by
          unfold cE cF
          dsimp only
          rw [if_pos rfl]
        rw [e3, cS_s, if_neg (fun q => q.2 k2), if_neg (by omega), if_neg (by omega), if_neg (by omega), if_neg (by omega), if_neg (by omega), if_pos k2]
        unfold cCl
        dsimp only
        rw [if_pos rfl, Nat.zero_add]
        exact hm
      obtain ⟨m', k'⟩ := g' (m + 1) r' kk
      exact ⟨m' + 1, by rw [u]; exact k'⟩
  · rw [if_neg c5] at h
    refine er t (Option.some.inj h).symm ⟨1, ?_⟩
    rw [cS_s, if_neg d0, if_neg c1, if_neg c2, if_neg c3, if_neg c4, if_neg c5]
    by_cases q : K t = 38
    · rw [if_pos q]
      cases S with
      | nil => rfl
      | cons x S => show (if x.1 = 1 then _ else _) = _; rw [if_neg (h38 q x S rfl)]
    · rw [if_neg q, if_neg (fun k => h46 k.1 k.2)]
theorem SAB (n : Nat) : SA X K N B V n ∧ SB X K N B V n := by
  induction n with
  | zero => exact ⟨fun _ _ _ _ _ _ h => (by unfold pS at h; cases h), fun _ _ _ _ _ _ _ h => by unfold pS at h; cases h⟩
  | succ n ih => exact ⟨SA_of ih.1 ih.2, SB_of ih.1 ih.2⟩
/-- the class's stack does as recursive descent -/
theorem SIMS {n : Nat} {t : Nat} {r : q_SR} (h : pS X K N B V n (some ([], 0, none, 0)) 0 0 0 0 t = some r) (f : Option (Int × Nat)) : ∃ m, cS X K N B V m (t, [], [], 0, 0, f) = some (match r with | .error x => .error x | .ok (t', s) => .ok (t', [], s.1, s.2.2.2, s.2.1, f.or s.2.2.1)) := by
  obtain ⟨a, b⟩ := (SAB n).2 ([], 0, none, 0) 0 0 0 0 t r h [] [] 0 f rfl rfl rfl (fun x S' q => by cases q)
  have e0 : cE K V (t, [], ([] : List q_St) ++ [], 0, 0, f.or none) 0 = (t, [], [], 0, 0, f) := by unfold cE cF; simp
  dsimp only at a b
  rw [e0] at a b
  match r, h, a, b with
  | .error x, h, a, _ => exact a x rfl
  | .ok (t', s), h, _, b =>
    have k2 : K t' = 46 := by
      have := pS_stop _ _ _ _ _ _ _ _ _ h
      unfold tmn at this
      rwa [if_pos rfl] at this
    refine b t' s rfl 1 _ ?_
    have e3 : cE K V (t', [], [] ++ s.1, s.2.2.2, 0, f.or s.2.2.1) s.2.1 = (t', [], s.1, s.2.2.2, s.2.1, f.or s.2.2.1) := by unfold cE cF; simp
    rw [e3, cS_s, if_neg (fun q => absurd q.1 (by simp)), if_neg (by omega), if_neg (by omega), if_neg (by omega), if_neg (by omega), if_neg (by omega), if_neg (by omega), if_pos ⟨k2, rfl⟩]
end CsP
