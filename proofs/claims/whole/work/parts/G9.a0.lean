/-! TREES of what was read: an EXPR, STATEMENTS; as the least thing that is closed under the rules -/
def PEc (Φ : q_It → Prop) (Ψ : q_Ex → Prop) : Prop :=
  (∀ it, Φ it → 23 ≤ it.1 ∧ it.1 ≤ 25 → Ψ ([it], it.2.2, 0, none)) ∧ (∀ u a b, 1 ≤ u ∧ u ≤ 18 → Ψ a → Ψ b → Ψ (eB u a b)) ∧ (∀ u a, 19 ≤ u ∧ u ≤ 21 → Ψ a → Ψ (eU u a)) ∧ ∀ a b c, Ψ a → Ψ b → Ψ c → Ψ (eC a b c)
def PE (Φ : q_It → Prop) (e : q_Ex) : Prop := ∀ Ψ, PEc Φ Ψ → Ψ e
theorem PE_c (Φ : q_It → Prop) : PEc Φ (PE Φ) := ⟨fun it h g Ψ c => c.1 it h g, fun u a b hu ha hb Ψ c => c.2.1 u a b hu (ha Ψ c) (hb Ψ c), fun u a hu ha Ψ c => c.2.2.1 u a hu (ha Ψ c), fun a b d ha hb hd Ψ c => c.2.2.2 a b d (ha Ψ c) (hb Ψ c) (hd Ψ c)⟩
abbrev q_Ty : Type := Bool → Nat → Nat → Nat → Nat → List q_St → Nat → Nat → Prop
/-- true: a row of STATEMENTS; DEPTH, steps before, loops around, ASSERTIONS before; steps, WORK, ASSERTIONS behind -/
def TSc (V : Nat) (Ex : q_Ex → Prop) (Ψ : q_Ty) : Prop :=
  (∀ dp i lp as v e, dp ≤ 30 → Ex e → 0 ≤ v ∧ v < (V : Int) → Ψ false dp i lp as [(1, v, 0, e.1)] (e.2.2.1 + 8) as) ∧
  (∀ dp i lp as e, dp ≤ 30 → Ex e → Ψ false dp i lp as [(2, (as : Int), 0, e.1)] (e.2.2.1 + 8) (as + 1)) ∧
  (∀ dp i lp as e, dp ≤ 30 → Ex e → Ψ false dp i lp as [(3, (as : Int), 0, e.1)] (e.2.2.1 + 8) as) ∧
  (∀ dp i lp as e l1 w1 a1, dp ≤ 30 → Ex e → Ψ false (dp + 1) (i + 1) lp as l1 w1 a1 → Ψ false dp i lp as ((4, 0, ((i + 1 + l1.length : Nat) : Int), e.1) :: (l1 ++ [(6, 0, 0, [])])) (e.2.2.1 + w1 + 8 * V) a1) ∧
  (∀ dp i lp as e l1 w1 a1 l2 w2 a2, dp ≤ 30 → Ex e → Ψ false (dp + 1) (i + 1) lp as l1 w1 a1 → Ψ false (dp + 1) (i + 1 + l1.length + 1) lp a1 l2 w2 a2 → Ψ false dp i lp as ((4, 0, ((i + 1 + l1.length + 1 : Nat) : Int), e.1) :: (l1 ++ (5, 0, ((i + 1 + l1.length + 1 + l2.length : Nat) : Int), []) :: (l2 ++ [(6, 0, 0, [])]))) (e.2.2.1 + w1 + w2 + 8 * V) a2) ∧
  (∀ dp i lp as (k : Nat) e l1 w1 a1, dp ≤ 30 → Ex e → k ≤ 8 → Ψ false (dp + 1) (i + 2) (lp + 1) as l1 w1 a1 → Ψ false dp i lp as ((7, (k : Int), (lp : Int), []) :: (8, (lp : Int), ((i + 2 + l1.length + 1 : Nat) : Int), e.1) :: (l1 ++ [(9, 0, ((i + 1 : Nat) : Int), [])])) (k * (e.2.2.1 + w1 + 8 * V) + e.2.2.1) a1) ∧
  (∀ dp i lp as l w a1, dp ≤ 30 → Ψ true (dp + 1) i lp as l w a1 → Ψ false dp i lp as l w a1) ∧
  (∀ dp i lp as, Ψ true dp i lp as [] 0 as) ∧
  (∀ dp i lp as l w a1 l2 w2 a2, Ψ true dp i lp as l w a1 → Ψ false dp (i + l.length) lp a1 l2 w2 a2 → Ψ true dp i lp as (l ++ l2) (w + w2) a2)
def TS (V : Nat) (Ex : q_Ex → Prop) (b : Bool) (dp i lp as : Nat) (l : List q_St) (w a1 : Nat) : Prop := ∀ Ψ, TSc V Ex Ψ → Ψ b dp i lp as l w a1
theorem TS_c (V : Nat) (Ex : q_Ex → Prop) : TSc V Ex (TS V Ex) := by
  refine ⟨fun dp i lp as v e h1 h2 h3 Ψ c => c.1 dp i lp as v e h1 h2 h3, fun dp i lp as e h1 h2 Ψ c => c.2.1 dp i lp as e h1 h2, fun dp i lp as e h1 h2 Ψ c => c.2.2.1 dp i lp as e h1 h2, fun dp i lp as e l1 w1 a1 h1 h2 h3 Ψ c => c.2.2.2.1 dp i lp as e l1 w1 a1 h1 h2 (h3 Ψ c), fun dp i lp as e l1 w1 a1 l2 w2 a2 h1 h2 h3 h4 Ψ c => c.2.2.2.2.1 dp i lp as e l1 w1 a1 l2 w2 a2 h1 h2 (h3 Ψ c) (h4 Ψ c), fun dp i lp as k e l1 w1 a1 h1 h2 h3 h4 Ψ c => c.2.2.2.2.2.1 dp i lp as k e l1 w1 a1 h1 h2 h3 (h4 Ψ c), fun dp i lp as l w a1 h1 h2 Ψ c => c.2.2.2.2.2.2.1 dp i lp as l w a1 h1 (h2 Ψ c), fun dp i lp as Ψ c => c.2.2.2.2.2.2.2.1 dp i lp as, fun dp i lp as l w a1 l2 w2 a2 h1 h2 Ψ c => c.2.2.2.2.2.2.2.2 dp i lp as l w a1 l2 w2 a2 (h1 Ψ c) (h2 Ψ c)⟩
theorem or_non {α : Type} {a b : Option α} (h : a.or b = none) : a = none ∧ b = none := by
  cases a with
  | none => exact ⟨rfl, h⟩
  | some x => cases h
theorem xF_non {e : q_Ex} (h : xF e = none) : e.2.2.2 = none := by
  unfold xF at h
  cases hx : e.2.2.2 with
  | none => rfl
  | some x => rw [hx] at h; cases h
section TrP
variable {Φ : q_It → Prop} {K : Nat → Int} {N : Nat → q_It} {B : Nat → Bool}
theorem pX_PE {T : Nat} (hT : K T = 46) (hN : ∀ t, t ≤ T → K t = 23 ∨ K t = 30 → B t = true → (23 ≤ (N t).1 ∧ (N t).1 ≤ 25) ∧ Φ (N t)) : ∀ (n l : Nat) (acc : Option q_Ex) (dp t t' : Nat) (e : q_Ex), pX K N B n l acc dp t = some (.ok (t', e)) → t ≤ T → l ≤ 11 → (acc = none ∨ 1 ≤ l) → (∀ e0, acc = some e0 → e0.2.2.2 = none → PE Φ e0) → t' ≤ T ∧ (e.2.2.2 = none → PE Φ e)
  | 0, _, _, _, _, _, _, h, _, _, _, _ => by unfold pX at h; cases h
  | n + 1, l, some e0, dp, t, t', e, h, tT, hl, ha, g => by
    unfold pX at h
    have ne : ∀ j, j ≤ T → K j ≠ 46 → j + 1 ≤ T := fun j h1 h2 => Nat.succ_le_of_lt (Nat.lt_of_le_of_ne h1 (fun e => h2 (by rw [e]; exact hT)))
    have l1 : 1 ≤ l := by rcases ha with q | q; cases q; exact q
    split at h
    · next cl =>
      rcases bnd_some h with ⟨y, -, q⟩ | ⟨t2, e2, q1, q2⟩
      · cases q
      · have ku : 1 ≤ K t ∧ K t ≤ 18 := Decidable.byContradiction fun q => by
          have := sgL_0.mpr q
          omega
        have k10 := sgL_le (K t)
        have t1 : t + 1 ≤ T := ne t tT (by omega)
        have b := pX_PE hT hN n _ _ _ _ _ _ q1 t1 (by omega) (Or.inl rfl) (fun e1 q => by cases q)
        refine pX_PE hT hN n _ _ _ _ _ _ q2 b.1 hl (Or.inr l1) (fun e1 q hn => ?_)
        cases q
        have o := orF_none hn
        exact (PE_c Φ).2.1 _ _ _ ku (g e0 rfl o.1) (b.2 o.2)
    · cases h; exact ⟨tT, g e0 rfl⟩
  | n + 1, l, none, dp, t, t', e, h, tT, hl, ha, g => by
    unfold pX at h
    have ne : ∀ j, j ≤ T → K j ≠ 46 → j + 1 ≤ T := fun j h1 h2 => Nat.succ_le_of_lt (Nat.lt_of_le_of_ne h1 (fun e => h2 (by rw [e]; exact hT)))
    split at h
    · next cl =>
      subst cl
      rcases bnd_some h with ⟨y, -, q⟩ | ⟨t1, e1, q1, q2⟩
      · cases q
      · have a := pX_PE hT hN n _ _ _ _ _ _ q1 tT (by omega) (Or.inl rfl) (fun e0 q => by cases q)
        split at q2
        · next k34 =>
          rcases bnd_some q2 with ⟨y, -, q⟩ | ⟨t2, e2, r1, r2⟩
          · cases q
          · have b := pX_PE hT hN n _ _ _ _ _ _ r1 (ne t1 a.1 (by omega)) (by omega) (Or.inl rfl) (fun e0 q => by cases q)
            split at r2
            · next k33 =>
              rcases bnd_some r2 with ⟨y, -, q⟩ | ⟨t3, e3, s1, s2⟩
              · cases q
              · have c := pX_PE hT hN n _ _ _ _ _ _ s1 (ne t2 b.1 (by omega)) (by omega) (Or.inl rfl) (fun e0 q => by cases q)
                cases s2
                refine ⟨c.1, fun hn => ?_⟩
                have o := orF_none hn
                have o2 := orF_none o.2
                exact (PE_c Φ).2.2.2 _ _ _ (a.2 o.1) (b.2 o2.1) (c.2 o2.2)
            · cases r2
        · cases q2; exact a
    · split at h
      · next c0 c10 =>
        rcases bnd_some h with ⟨y, -, q⟩ | ⟨t1, e1, q1, q2⟩
        · cases q
        · have a := pX_PE hT hN n _ _ _ _ _ _ q1 tT (by omega) (Or.inl rfl) (fun e0 q => by cases q)
          exact pX_PE hT hN n _ _ _ _ _ _ q2 a.1 hl (Or.inr (by omega)) (fun e0 q => by cases q; exact a.2)
      · next c0 c10 =>
        have l11 : l = 11 := by omega
        subst l11
        split at h
        · cases h
        · next dp30 =>
          split at h
          · next cu =>
            rcases bnd_some h with ⟨y, -, q⟩ | ⟨t1, e1, q1, q2⟩
            · cases q
            · have a := pX_PE hT hN n _ _ _ _ _ _ q1 (ne t tT (by omega)) (by omega) (Or.inl rfl) (fun e0 q => by cases q)
              cases q2
              have hu : 19 ≤ (if K t = 15 then (21 : Int) else K t) ∧ (if K t = 15 then (21 : Int) else K t) ≤ 21 := by split <;> omega
              exact ⟨a.1, fun hn => (PE_c Φ).2.2.1 _ _ hu (a.2 hn)⟩
          · split at h
            · next k35 =>
              rcases bnd_some h with ⟨y, -, q⟩ | ⟨t1, e1, q1, q2⟩
              · cases q
              · have a := pX_PE hT hN n _ _ _ _ _ _ q1 (ne t tT (by omega)) (by omega) (Or.inl rfl) (fun e0 q => by cases q)
                split at q2
                · next k36 => cases q2; exact ⟨ne t1 a.1 (by omega), a.2⟩
                · cases q2
            · split at h
              · next c =>
                cases h
                refine ⟨ne t tT (by omega), fun hn => ?_⟩
                cases hB : B t with
                | false => rw [hB] at hn; cases hn
                | true =>
                  have := hN t tT c hB
                  exact (PE_c Φ).1 _ this.2 this.1
              · cases h
theorem XO_PE {X : Nat → Nat → q_PR} {T dp t t' : Nat} {e : q_Ex} (hT : K T = 46) (hN : ∀ t, t ≤ T → K t = 23 ∨ K t = 30 → B t = true → (23 ≤ (N t).1 ∧ (N t).1 ≤ 25) ∧ Φ (N t)) (hX : XO X K N B T) (h2 : ∀ dp t, T < t → X dp t = .error t) (h : X dp t = .ok (t', e)) : t' ≤ T ∧ (e.2.2.2 = none → PE Φ e) := by
  by_cases c : t ≤ T
  · obtain ⟨n, hn⟩ := hX dp t c
    have hn1 : pX K N B n 0 none dp t = some (X dp t) := hn n (Nat.le_refl _)
    rw [h] at hn1
    exact pX_PE hT hN n 0 none dp t t' e hn1 c (by omega) (Or.inl rfl) (fun e0 q => by cases q)
  · rw [h2 dp t (by omega)] at h; cases h
variable {X : Nat → Nat → q_PR} {V : Nat} {Ex : q_Ex → Prop}
theorem pS_TS {T : Nat} (hT : K T = 46) (hw : ∀ dp t t' e, X dp t = .ok (t', e) → t' ≤ T ∧ (e.2.2.2 = none → Ex e)) (hS : ∀ t, t ≤ T → K t = 30 → tgF N B t = none → 0 ≤ tgV N t ∧ tgV N t < (V : Int)) (hL : ∀ t, t ≤ T → K t = 23 → 0 ≤ (N t).2.1) : ∀ (n : Nat) (a : Option q_Sm) (dp lp i as t t' : Nat) (s : q_Sm), pS X K N B V n a dp lp i as t = some (.ok (t', s)) → t ≤ T → (∀ a0, a = some a0 → a0.2.2.1 = none → TS V Ex true dp i lp as a0.1 a0.2.1 a0.2.2.2) → t' ≤ T ∧ (s.2.2.1 = none → TS V Ex a.isSome dp i lp as s.1 s.2.1 s.2.2.2)
  | 0, _, _, _, _, _, _, _, _, h, _, _ => by unfold pS at h; cases h
  | n + 1, some a, dp, lp, i, as, t, t', s, h, tT, g => by
    rw [pS_s] at h
    by_cases c : K t = tmn dp
    · rw [if_pos c] at h; cases h; exact ⟨tT, g a rfl⟩
    · rw [if_neg c] at h
      rcases bnS_some h with ⟨x, -, q⟩ | ⟨t1, s1, q1, q2⟩
      · cases q
      · have b := pS_TS hT hw hS hL n none dp lp _ _ t t1 s1 q1 tT (fun a0 q => by cases q)
        have r := pS_TS hT hw hS hL n (some (sApp a s1)) dp lp i as t1 t' s q2 b.1 (fun a0 q hn => by
          cases q
          have o := or_non hn
          exact (TS_c V Ex).2.2.2.2.2.2.2.2 _ _ _ _ _ _ _ _ _ _ (g a rfl o.1) (b.2 o.2))
        exact r
  | n + 1, none, dp, lp, i, as, t, t', s, h, tT, _ => by
    have ne : ∀ j, j ≤ T → K j ≠ 46 → j + 1 ≤ T := fun j h1 h2 => Nat.succ_le_of_lt (Nat.lt_of_le_of_ne h1 (fun e => h2 (by rw [e]; exact hT)))
    rw [pS_1] at h
    split at h
    · cases h
    · next dp30 =>
      have d30 : dp ≤ 30 := by omega
      split at h
      · next k30 =>
        split at h
        · rcases bnX_some h with ⟨x, -, q⟩ | ⟨t1, e, q1, q2⟩
          · cases q
          · split at q2
            · next k32 =>
              cases q2
              have w := hw _ _ _ _ q1
              refine ⟨ne t1 w.1 (by omega), fun hn => ?_⟩
              have o := or_non hn
              exact (TS_c V Ex).1 _ _ _ _ _ _ d30 (w.2 (xF_non o.2)) (hS t tT k30 o.1)
            · cases q2
        · cases h
      · split at h
        · next k44 =>
          rcases bnX_some h with ⟨x, -, q⟩ | ⟨t1, e, q1, q2⟩
          · cases q
          · split at q2
            · next k32 =>
              cases q2
              have w := hw _ _ _ _ q1
              refine ⟨ne t1 w.1 (by omega), fun hn => ?_⟩
              have ex := w.2 (xF_non hn)
              by_cases c : K t = 44
              · show TS V Ex false dp i lp as [(if K t = 44 then 2 else 3, (as : Int), 0, e.1)] (e.2.2.1 + 8) (if K t = 44 then as + 1 else as)
                rw [if_pos c, if_pos c]
                exact (TS_c V Ex).2.1 _ _ _ _ _ d30 ex
              · show TS V Ex false dp i lp as [(if K t = 44 then 2 else 3, (as : Int), 0, e.1)] (e.2.2.1 + 8) (if K t = 44 then as + 1 else as)
                rw [if_neg c, if_neg c]
                exact (TS_c V Ex).2.2.1 _ _ _ _ _ d30 ex
            · cases q2
        · split at h
          · split at h
            · rcases bnX_some h with ⟨x, -, q⟩ | ⟨t1, e, q1, q2⟩
              · cases q
              · split at q2
                · next k36 =>
                  have w := hw _ _ _ _ q1
                  rcases bnS_some q2 with ⟨x, -, q⟩ | ⟨t2, s2, q3, q4⟩
                  · cases q
                  · have b := pS_TS hT hw hS hL n none _ _ _ _ _ _ s2 q3 (ne t1 w.1 (by omega)) (fun a0 q => by cases q)
                    split at q4
                    · next k42 =>
                      rcases bnS_some q4 with ⟨x, -, q⟩ | ⟨t3, s3, q5, q6⟩
                      · cases q
                      · have c := pS_TS hT hw hS hL n none _ _ _ _ _ _ s3 q5 (ne t2 b.1 (by omega)) (fun a0 q => by cases q)
                        cases q6
                        refine ⟨c.1, fun hn => ?_⟩
                        have o := or_non hn
                        have o2 := or_non o.1
                        exact (TS_c V Ex).2.2.2.2.1 _ _ _ _ _ _ _ _ _ _ _ d30 (w.2 (xF_non o2.1)) (b.2 o2.2) (c.2 o.2)
                    · cases q4
                      refine ⟨b.1, fun hn => ?_⟩
                      have o := or_non hn
                      exact (TS_c V Ex).2.2.2.1 _ _ _ _ _ _ _ _ d30 (w.2 (xF_non o.1)) (b.2 o.2)
                · cases q2
            · cases h
          · split at h
            · next k43 =>
              split at h
              · next k23 =>
                split at h
                · rcases bnX_some h with ⟨x, -, q⟩ | ⟨t1, e, q1, q2⟩
                  · cases q
                  · split at q2
                    · next k36 =>
                      have w := hw _ _ _ _ q1
                      rcases bnS_some q2 with ⟨x, -, q⟩ | ⟨t2, s2, q3, q4⟩
                      · cases q
                      · have b := pS_TS hT hw hS hL n none _ _ _ _ _ _ s2 q3 (ne t1 w.1 (by omega)) (fun a0 q => by cases q)
                        cases q4
                        refine ⟨b.1, fun hn => ?_⟩
                        have o := or_non hn
                        have o2 := or_non o.1
                        have k0 := hL (t + 1) (ne t tT (by omega)) k23
                        have k8 : (N (t + 1)).2.1 ≤ 8 := Decidable.byContradiction fun q => by
                          have := o2.1
                          unfold lpF at this
                          rw [if_pos (by omega)] at this
                          cases this
                        obtain ⟨k, hk⟩ : ∃ k : Nat, (N (t + 1)).2.1 = (k : Int) := ⟨(N (t + 1)).2.1.toNat, by omega⟩
                        unfold sWhi
                        rw [hk]
                        exact (TS_c V Ex).2.2.2.2.2.1 _ _ _ _ _ _ _ _ _ d30 (w.2 (xF_non o2.2)) (by omega) (b.2 o.2)
                    · cases q2
                · cases h
              · cases h
            · split at h
              · next k37 =>
                rcases bnS_some h with ⟨x, -, q⟩ | ⟨t2, s2, q3, q4⟩
                · cases q
                · have b := pS_TS hT hw hS hL n _ _ _ _ _ _ _ s2 q3 (ne t tT (by omega)) (fun a0 q _ => by cases q; exact (TS_c V Ex).2.2.2.2.2.2.2.1 _ _ _ _)
                  have st := pS_stop n _ _ _ _ _ _ _ s2 q3
                  have k38 : K t2 = 38 := by rw [st]; unfold tmn; rw [if_neg (by omega)]
                  cases q4
                  exact ⟨ne t2 b.1 (by omega), fun hn => (TS_c V Ex).2.2.2.2.2.2.1 _ _ _ _ _ _ _ d30 (b.2 hn)⟩
              · cases h
end TrP
