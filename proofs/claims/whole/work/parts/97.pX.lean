/-! READING A TEXT, as functions: recursive descent over TOKENS. K: their kinds; N: the items of NAMES and NUMBERS; B: whether a NAME is known -/
abbrev q_It : Type := Int × Int × Int
/-- an EXPR that was read: its items, WIDTH, WORK, the first NAME in it that is unknown -/
abbrev q_Ex : Type := List q_It × Int × Nat × Option Nat
abbrev q_PR : Type := Except Nat (Nat × q_Ex)
/-- how tightly a sign between two operands holds -/
def sgL (k : Int) : Nat :=
  if k = 1 then 1 else if k = 2 then 2 else if k = 3 then 3 else if k = 4 then 4 else if k = 5 then 5 else if k = 6 then 6 else if k = 7 then 6 else if k = 8 then 7 else if k = 9 then 7 else if k = 10 then 7 else if k = 11 then 7
  else if k = 12 then 8 else if k = 13 then 8 else if k = 14 then 9 else if k = 15 then 9 else if k = 16 then 10 else if k = 17 then 10 else if k = 18 then 10 else 0
/-- the WIDTH of an outcome, and its price -/
def oW (s : Int) (w1 w2 : Int) : Int := if sgL s ≤ 2 ∨ sgL s = 6 ∨ sgL s = 7 then 1 else if sgL s = 8 then w1 else max w1 w2
def oP (s : Int) (w : Int) : Nat := if sgL s = 10 then (w * w).toNat else if sgL s = 8 then (4 * w).toNat else w.toNat
def orF (a b : Option Nat) : Option Nat := match a with | some x => some x | none => b
def eB (s : Int) (a b : q_Ex) : q_Ex := (a.1 ++ b.1 ++ [(s, 0, oW s a.2.1 b.2.1)], oW s a.2.1 b.2.1, a.2.2.1 + b.2.2.1 + oP s (max a.2.1 b.2.1), orF a.2.2.2 b.2.2.2)
def uW (s w : Int) : Int := if s = 19 then 1 else w
def eU (s : Int) (a : q_Ex) : q_Ex := (a.1 ++ [(s, 0, uW s a.2.1)], uW s a.2.1, a.2.2.1 + a.2.1.toNat, a.2.2.2)
def eC (a b c : q_Ex) : q_Ex := (a.1 ++ b.1 ++ c.1 ++ [(22, 0, max b.2.1 c.2.1)], max b.2.1 c.2.1, a.2.2.1 + b.2.2.1 + c.2.2.1 + (max a.2.1 (max b.2.1 c.2.1)).toNat, orF a.2.2.2 (orF b.2.2.2 c.2.2.2))
def bnd (x : Option q_PR) (f : Nat → q_Ex → Option q_PR) : Option q_PR :=
  match x with
  | none => none
  | some (.error e) => some (.error e)
  | some (.ok (t, e)) => f t e
/-- l: 0 an EXPR, 1 to 10 by signs, 11 what stands between them; acc: what was read of it already -/
def pX (K : Nat → Int) (N : Nat → q_It) (B : Nat → Bool) : Nat → Nat → Option q_Ex → Nat → Nat → Option q_PR
  | 0, _, _, _, _ => none
  | n + 1, l, some e, dp, t =>
    if sgL (K t) = l then bnd (pX K N B n (l + 1) none dp (t + 1)) (fun t2 e2 => pX K N B n l (some (eB (K t) e e2)) dp t2)
    else some (.ok (t, e))
  | n + 1, l, none, dp, t =>
    if l = 0 then bnd (pX K N B n 1 none dp t) (fun t1 e1 =>
      if K t1 = 34 then bnd (pX K N B n 0 none (dp + 1) (t1 + 1)) (fun t2 e2 =>
        if K t2 = 33 then bnd (pX K N B n 0 none (dp + 1) (t2 + 1)) (fun t3 e3 => some (.ok (t3, eC e1 e2 e3)))
        else some (.error t2))
      else some (.ok (t1, e1)))
    else if l ≤ 10 then bnd (pX K N B n (l + 1) none dp t) (fun t1 e1 => pX K N B n l (some e1) dp t1)
    else if 30 < dp then some (.error t)
    else if K t = 19 ∨ K t = 20 ∨ K t = 15 then bnd (pX K N B n 11 none (dp + 1) (t + 1)) (fun t1 e1 => some (.ok (t1, eU (if K t = 15 then 21 else K t) e1)))
    else if K t = 35 then bnd (pX K N B n 0 none (dp + 1) (t + 1)) (fun t1 e1 => if K t1 = 36 then some (.ok (t1 + 1, e1)) else some (.error t1))
    else if K t = 23 ∨ K t = 30 then some (.ok (t + 1, [N t], (N t).2.2, 0, if B t then none else some t))
    else some (.error t)
theorem bnd_some {x : Option q_PR} {f : Nat → q_Ex → Option q_PR} {r : q_PR} (h : bnd x f = some r) : (∃ e, x = some (.error e) ∧ r = .error e) ∨ ∃ t e, x = some (.ok (t, e)) ∧ f t e = some r := by
  match x, h with
  | some (.error e), h => exact Or.inl ⟨e, rfl, (Option.some.inj h).symm⟩
  | some (.ok (t, e)), h => exact Or.inr ⟨t, e, rfl, h⟩
theorem sgL_0 {k : Int} : sgL k = 0 ↔ ¬ (1 ≤ k ∧ k ≤ 18) := by
  constructor
  · intro h hk
    have : ∀ j : Nat, j < 19 → 1 ≤ j → sgL (j : Int) ≠ 0 := by decide
    exact this k.toNat (by omega) (by omega) (by rw [show ((k.toNat : Nat) : Int) = k by omega]; exact h)
  · intro h
    unfold sgL
    rw [if_neg (by omega), if_neg (by omega), if_neg (by omega), if_neg (by omega), if_neg (by omega), if_neg (by omega), if_neg (by omega), if_neg (by omega), if_neg (by omega), if_neg (by omega), if_neg (by omega), if_neg (by omega), if_neg (by omega), if_neg (by omega), if_neg (by omega), if_neg (by omega), if_neg (by omega), if_neg (by omega)]
theorem sgL_le (k : Int) : sgL k ≤ 10 := by
  by_cases c : 1 ≤ k ∧ k ≤ 18
  · have : ∀ j : Nat, j < 19 → sgL (j : Int) ≤ 10 := by decide
    have := this k.toNat (by omega)
    rwa [show ((k.toNat : Nat) : Int) = k by omega] at this
  · rw [sgL_0.mpr c]; decide
section PxP
variable {K : Nat → Int} {N : Nat → q_It} {B : Nat → Bool}
/-- what holds behind what was read: the next sign holds less tightly -/
theorem pX_next : ∀ (n l : Nat) (acc : Option q_Ex) (dp t t' : Nat) (e : q_Ex), l ≤ 11 → (acc ≠ none → sgL (K t) ≤ l ∧ 1 ≤ l ∧ l ≤ 10) → pX K N B n l acc dp t = some (.ok (t', e)) → (1 ≤ l → l ≤ 10 → sgL (K t') < l) ∧ (l = 0 → sgL (K t') = 0 ∧ K t' ≠ 34) ∧ (acc = none → t < t' ∧ dp ≤ 30) ∧ t ≤ t'
  | 0, _, _, _, _, _, _, _, _, h => by cases h
  | n + 1, l, some e0, dp, t, t', e, hl, ha, h => by
    obtain ⟨h1, h2, h3⟩ := ha (by simp)
    unfold pX at h
    by_cases c : sgL (K t) = l
    · rw [if_pos c] at h
      rcases bnd_some h with ⟨x, -, q⟩ | ⟨t2, e2, q1, q2⟩
      · cases q
      · obtain ⟨a1, a2, a3, a4⟩ := pX_next n (l + 1) none dp (t + 1) t2 e2 (by omega) (fun q => absurd rfl q) q1
        have b := pX_next n l (some (eB (K t) e0 e2)) dp t2 t' e hl (fun _ => ⟨by
          by_cases q : l + 1 ≤ 10
          · have := a1 (by omega) q; omega
          · have := sgL_le (K t2); omega, h2, h3⟩) q2
        exact ⟨b.1, b.2.1, fun q => absurd q (by simp), by have := b.2.2.2; omega⟩
    · rw [if_neg c] at h
      cases h
      exact ⟨fun _ _ => by omega, fun q => absurd q (by omega), fun q => absurd q (by simp), Nat.le_refl _⟩
  | n + 1, l, none, dp, t, t', e, hl, ha, h => by
    unfold pX at h
    by_cases c0 : l = 0
    · rw [if_pos c0] at h
      rcases bnd_some h with ⟨x, -, q⟩ | ⟨t1, e1, q1, q2⟩
      · cases q
      · obtain ⟨a1, a2, a3, a4⟩ := pX_next n 1 none dp t t1 e1 (by omega) (fun q => absurd rfl q) q1
        by_cases c1 : K t1 = 34
        · rw [if_pos c1] at q2
          rcases bnd_some q2 with ⟨x, -, q⟩ | ⟨t2, e2, r1, r2⟩
          · cases q
          · obtain ⟨b1, b2, b3, b4⟩ := pX_next n 0 none (dp + 1) (t1 + 1) t2 e2 (by omega) (fun q => absurd rfl q) r1
            by_cases c2 : K t2 = 33
            · rw [if_pos c2] at r2
              rcases bnd_some r2 with ⟨x, -, q⟩ | ⟨t3, e3, s1, s2⟩
              · cases q
              · obtain ⟨d1, d2, d3, d4⟩ := pX_next n 0 none (dp + 1) (t2 + 1) t3 e3 (by omega) (fun q => absurd rfl q) s1
                cases s2
                exact ⟨fun q => absurd q (by omega), fun _ => d2 rfl, fun _ => by have := a3 rfl; have := b3 rfl; have := d3 rfl; omega, by have := a3 rfl; have := b3 rfl; have := d3 rfl; omega⟩
            · rw [if_neg c2] at r2; cases r2
        · rw [if_neg c1] at q2
          cases q2
          exact ⟨fun q => absurd q (by omega), fun _ => ⟨by have := a1 (by omega) (by omega); omega, c1⟩, fun _ => a3 rfl, a4⟩
    · rw [if_neg c0] at h
      by_cases c1 : l ≤ 10
      · rw [if_pos c1] at h
        rcases bnd_some h with ⟨x, -, q⟩ | ⟨t1, e1, q1, q2⟩
        · cases q
        · obtain ⟨a1, a2, a3, a4⟩ := pX_next n (l + 1) none dp t t1 e1 (by omega) (fun q => absurd rfl q) q1
          have b := pX_next n l (some e1) dp t1 t' e hl (fun _ => ⟨by
            by_cases q : l + 1 ≤ 10
            · have := a1 (by omega) q; omega
            · have := sgL_le (K t1); omega, by omega, c1⟩) q2
          exact ⟨b.1, b.2.1, fun _ => by have := a3 rfl; have := b.2.2.2; omega, by have := b.2.2.2; omega⟩
      · rw [if_neg c1] at h
        by_cases c2 : 30 < dp
        · rw [if_pos c2] at h; cases h
        · rw [if_neg c2] at h
          have dd : dp ≤ 30 := by omega
          have ne : ¬ l ≤ 10 ∧ l ≠ 0 := ⟨c1, c0⟩
          by_cases c3 : K t = 19 ∨ K t = 20 ∨ K t = 15
          · rw [if_pos c3] at h
            rcases bnd_some h with ⟨x, -, q⟩ | ⟨t1, e1, q1, q2⟩
            · cases q
            · obtain ⟨a1, a2, a3, a4⟩ := pX_next n 11 none (dp + 1) (t + 1) t1 e1 (by omega) (fun q => absurd rfl q) q1
              cases q2
              exact ⟨fun _ q => absurd q c1, fun q => absurd q c0, fun _ => by have := a3 rfl; omega, by have := a3 rfl; omega⟩
          · rw [if_neg c3] at h
            by_cases c4 : K t = 35
            · rw [if_pos c4] at h
              rcases bnd_some h with ⟨x, -, q⟩ | ⟨t1, e1, q1, q2⟩
              · cases q
              · obtain ⟨a1, a2, a3, a4⟩ := pX_next n 0 none (dp + 1) (t + 1) t1 e1 (by omega) (fun q => absurd rfl q) q1
                by_cases c5 : K t1 = 36
                · rw [if_pos c5] at q2
                  cases q2
                  exact ⟨fun _ q => absurd q c1, fun q => absurd q c0, fun _ => by have := a3 rfl; omega, by have := a3 rfl; omega⟩
                · rw [if_neg c5] at q2; cases q2
            · rw [if_neg c4] at h
              by_cases c5 : K t = 23 ∨ K t = 30
              · rw [if_pos c5] at h
                cases h
                exact ⟨fun _ q => absurd q c1, fun q => absurd q c0, fun _ => by omega, by omega⟩
              · rw [if_neg c5] at h; cases h
/-- more to spend: the same -/
theorem pX_more : ∀ (n l : Nat) (acc : Option q_Ex) (dp t : Nat) (r : q_PR), pX K N B n l acc dp t = some r → pX K N B (n + 1) l acc dp t = some r := by
  have bm : ∀ {x y : Option q_PR} {f g : Nat → q_Ex → Option q_PR} {r : q_PR}, bnd x f = some r → (∀ r, x = some r → y = some r) → (∀ t e r, f t e = some r → g t e = some r) → bnd y g = some r := by
    intro x y f g r h hx hf
    rcases bnd_some h with ⟨e, q1, q2⟩ | ⟨t, e, q1, q2⟩
    · rw [hx _ q1, q2]; rfl
    · rw [hx _ q1]; exact hf _ _ _ q2
  intro n
  induction n with
  | zero => intro l acc dp t r h; cases h
  | succ n ih =>
    intro l acc dp t r h
    cases acc with
    | some e =>
      unfold pX at h ⊢
      split at h
      · next c => rw [if_pos c]; exact bm h (ih _ _ _ _) (fun t e r q => ih _ _ _ _ r q)
      · next c => rw [if_neg c]; exact h
    | none =>
      unfold pX at h ⊢
      split at h
      · next c =>
        rw [if_pos c]
        refine bm h (ih _ _ _ _) (fun t1 e1 r q => ?_)
        split at q
        · next c1 =>
          rw [if_pos c1]
          refine bm q (ih _ _ _ _) (fun t2 e2 r q => ?_)
          split at q
          · next c2 => rw [if_pos c2]; exact bm q (ih _ _ _ _) (fun t3 e3 r q => q)
          · next c2 => rw [if_neg c2]; exact q
        · next c1 => rw [if_neg c1]; exact q
      · next c =>
        rw [if_neg c]
        split at h
        · next c1 => rw [if_pos c1]; exact bm h (ih _ _ _ _) (fun t e r q => ih _ _ _ _ r q)
        · next c1 =>
          rw [if_neg c1]
          split at h
          · next c2 => rw [if_pos c2]; exact h
          · next c2 =>
            rw [if_neg c2]
            split at h
            · next c3 => rw [if_pos c3]; exact bm h (ih _ _ _ _) (fun t e r q => q)
            · next c3 =>
              rw [if_neg c3]
              split at h
              · next c4 => rw [if_pos c4]; exact bm h (ih _ _ _ _) (fun t e r q => q)
              · next c4 => rw [if_neg c4]; exact h
theorem pX_le {n m l dp t : Nat} {acc : Option q_Ex} {r : q_PR} (h : pX K N B n l acc dp t = some r) (hm : n ≤ m) : pX K N B m l acc dp t = some r := by
  obtain ⟨k, rfl⟩ : ∃ k, m = n + k := ⟨m - n, by omega⟩
  induction k with
  | zero => exact h
  | succ k ih => exact pX_more _ _ _ _ _ _ (ih (by omega))
end PxP
