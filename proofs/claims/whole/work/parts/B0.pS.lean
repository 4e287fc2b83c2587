/-! STATEMENTS, as functions of TOKENS; first: every EXPR comes to an end -/
section PtP
variable {K : Nat → Int} {N : Nat → q_It} {B : Nat → Bool}
theorem bnd_ex {f : Nat → Nat → q_Ex → Option q_PR} {x : Nat → Option q_PR} (hx : ∃ n r, (∀ m, n ≤ m → x m = some r) ∧ ∀ t e, r = .ok (t, e) → ∃ n2 r2, ∀ m, n2 ≤ m → f m t e = some r2) : ∃ n r, ∀ m, n ≤ m → bnd (x m) (f m) = some r := by
  obtain ⟨n, r, h1, h2⟩ := hx
  match r, h1, h2 with
  | .error e, h1, _ => exact ⟨n, .error e, fun m hm => by rw [h1 m hm]; rfl⟩
  | .ok (t, e), h1, h2 =>
    obtain ⟨n2, r2, h3⟩ := h2 t e rfl
    exact ⟨max n n2, r2, fun m hm => by rw [h1 m (by omega)]; exact h3 m (by omega)⟩
/-- enough to spend, from one up -/
theorem ex_up {α : Type} {f : Nat → Option α} (h : ∃ n r, ∀ m, n ≤ m → f (m + 1) = some r) : ∃ n r, ∀ m, n ≤ m → f m = some r := by
  obtain ⟨n, r, h⟩ := h
  refine ⟨n + 1, r, fun m hm => ?_⟩
  have := h (m - 1) (by omega)
  rwa [show m - 1 + 1 = m by omega] at this
theorem pX_ends {T : Nat} (hT : K T = 46) : ∀ (k l : Nat) (acc : Option q_Ex) (dp t : Nat), t ≤ T → l ≤ 11 → (acc ≠ none → 1 ≤ l ∧ l ≤ 10 ∧ sgL (K t) ≤ l) → 13 * (T - t) + (if acc = none then 12 - l else 0) ≤ k → ∃ n r, (∀ m, n ≤ m → pX K N B m l acc dp t = some r) ∧ ∀ t' e, r = .ok (t', e) → t' ≤ T := by
  have h0 : sgL (K T) = 0 := by rw [hT]; decide
  intro k
  induction k using Nat.strongRecOn with
  | _ k ih =>
  have ih' : ∀ (l : Nat) (acc : Option q_Ex) (dp t : Nat), t ≤ T → l ≤ 11 → (acc ≠ none → 1 ≤ l ∧ l ≤ 10 ∧ sgL (K t) ≤ l) → 13 * (T - t) + (if acc = none then 12 - l else 0) < k → ∃ n r, (∀ m, n ≤ m → pX K N B m l acc dp t = some r) ∧ ∀ t' e, r = .ok (t', e) → t' ≤ T := fun l acc dp t a b c d => ih _ d l acc dp t a b c (Nat.le_refl _)
  intro l acc dp t ht hl ha hk
  cases acc with
  | some e =>
    obtain ⟨l1, l10, hs⟩ := ha (by simp)
    rw [if_neg (by simp)] at hk
    by_cases c : sgL (K t) = l
    · have hne : t ≠ T := fun q => by rw [q] at c; omega
      obtain ⟨n1, r1, g1, g2⟩ := ih' (l + 1) none dp (t + 1) (by omega) (by omega) (fun q => absurd rfl q) (by rw [if_pos rfl]; omega)
      match r1, g1, g2 with
      | .error x, g1, _ =>
        refine ⟨n1 + 1, .error x, fun m hm => ?_, fun _ _ q => by cases q⟩
        rw [show m = m - 1 + 1 by omega]
        unfold pX
        rw [if_pos c, g1 (m - 1) (by omega)]; rfl
      | .ok (t2, e2), g1, g2 =>
        have nx := pX_next n1 (l + 1) none dp (t + 1) t2 e2 (by omega) (fun q => absurd rfl q) (g1 n1 (Nat.le_refl _))
        have := (nx.2.2.1 rfl).1
        have := g2 t2 e2 rfl
        obtain ⟨n2, r2, g3, g4⟩ := ih' l (some (eB (K t) e e2)) dp t2 (by omega) hl (fun _ => ⟨l1, l10, by
          by_cases q : l + 1 ≤ 10
          · have := nx.1 (by omega) q; omega
          · have := sgL_le (K t2); omega⟩) (by rw [if_neg (by simp)]; omega)
        refine ⟨max n1 n2 + 1, r2, fun m hm => ?_, g4⟩
        rw [show m = m - 1 + 1 by omega]
        unfold pX
        rw [if_pos c, g1 (m - 1) (by omega)]
        exact g3 (m - 1) (by omega)
    · refine ⟨1, .ok (t, e), fun m hm => ?_, fun t' e' q => by cases q; exact ht⟩
      rw [show m = m - 1 + 1 by omega]
      unfold pX
      rw [if_neg c]
  | none =>
    rw [if_pos rfl] at hk
    by_cases c0 : l = 0
    · subst c0
      obtain ⟨n1, r1, g1, g2⟩ := ih' 1 none dp t ht (by omega) (fun q => absurd rfl q) (by rw [if_pos rfl]; omega)
      match r1, g1, g2 with
      | .error x, g1, _ =>
        refine ⟨n1 + 1, .error x, fun m hm => ?_, fun _ _ q => by cases q⟩
        rw [show m = m - 1 + 1 by omega]
        unfold pX
        rw [if_pos rfl, g1 (m - 1) (by omega)]; rfl
      | .ok (t1, e1), g1, g2 =>
        have t1T := g2 t1 e1 rfl
        have nx := ((pX_next n1 1 none dp t t1 e1 (by omega) (fun q => absurd rfl q) (g1 n1 (Nat.le_refl _))).2.2.1 rfl).1
        by_cases c1 : K t1 = 34
        · have hne : t1 ≠ T := fun q => by rw [q, hT] at c1; cases c1
          obtain ⟨n2, r2, g3, g4⟩ := ih' 0 none (dp + 1) (t1 + 1) (by omega) (by omega) (fun q => absurd rfl q) (by rw [if_pos rfl]; omega)
          match r2, g3, g4 with
          | .error x, g3, _ =>
            refine ⟨max n1 n2 + 1, .error x, fun m hm => ?_, fun _ _ q => by cases q⟩
            rw [show m = m - 1 + 1 by omega]
            unfold pX
            rw [if_pos rfl, g1 (m - 1) (by omega)]
            show (if K t1 = 34 then _ else _) = _
            rw [if_pos c1, g3 (m - 1) (by omega)]; rfl
          | .ok (t2, e2), g3, g4 =>
            have t2T := g4 t2 e2 rfl
            have nx2 := ((pX_next n2 0 none (dp + 1) (t1 + 1) t2 e2 (by omega) (fun q => absurd rfl q) (g3 n2 (Nat.le_refl _))).2.2.1 rfl).1
            by_cases c2 : K t2 = 33
            · have hne2 : t2 ≠ T := fun q => by rw [q, hT] at c2; cases c2
              obtain ⟨n3, r3, g5, g6⟩ := ih' 0 none (dp + 1) (t2 + 1) (by omega) (by omega) (fun q => absurd rfl q) (by rw [if_pos rfl]; omega)
              match r3, g5, g6 with
              | .error x, g5, _ =>
                refine ⟨max n1 (max n2 n3) + 1, .error x, fun m hm => ?_, fun _ _ q => by cases q⟩
                rw [show m = m - 1 + 1 by omega]
                unfold pX
                rw [if_pos rfl, g1 (m - 1) (by omega)]
                show (if K t1 = 34 then _ else _) = _
                rw [if_pos c1, g3 (m - 1) (by omega)]
                show (if K t2 = 33 then _ else _) = _
                rw [if_pos c2, g5 (m - 1) (by omega)]; rfl
              | .ok (t3, e3), g5, g6 =>
                refine ⟨max n1 (max n2 n3) + 1, .ok (t3, eC e1 e2 e3), fun m hm => ?_, fun t' e' q => by cases q; exact g6 t3 e3 rfl⟩
                rw [show m = m - 1 + 1 by omega]
                unfold pX
                rw [if_pos rfl, g1 (m - 1) (by omega)]
                show (if K t1 = 34 then _ else _) = _
                rw [if_pos c1, g3 (m - 1) (by omega)]
                show (if K t2 = 33 then _ else _) = _
                rw [if_pos c2, g5 (m - 1) (by omega)]; rfl
            · refine ⟨max n1 n2 + 1, .error t2, fun m hm => ?_, fun _ _ q => by cases q⟩
              rw [show m = m - 1 + 1 by omega]
              unfold pX
              rw [if_pos rfl, g1 (m - 1) (by omega)]
              show (if K t1 = 34 then _ else _) = _
              rw [if_pos c1, g3 (m - 1) (by omega)]
              show (if K t2 = 33 then _ else _) = _
              rw [if_neg c2]
        · refine ⟨n1 + 1, .ok (t1, e1), fun m hm => ?_, fun t' e' q => by cases q; exact t1T⟩
          rw [show m = m - 1 + 1 by omega]
          unfold pX
          rw [if_pos rfl, g1 (m - 1) (by omega)]
          show (if K t1 = 34 then _ else _) = _
          rw [if_neg c1]
    · by_cases c1 : l ≤ 10
      · obtain ⟨n1, r1, g1, g2⟩ := ih' (l + 1) none dp t ht (by omega) (fun q => absurd rfl q) (by rw [if_pos rfl]; omega)
        match r1, g1, g2 with
        | .error x, g1, _ =>
          refine ⟨n1 + 1, .error x, fun m hm => ?_, fun _ _ q => by cases q⟩
          rw [show m = m - 1 + 1 by omega]
          unfold pX
          rw [if_neg c0, if_pos c1, g1 (m - 1) (by omega)]; rfl
        | .ok (t1, e1), g1, g2 =>
          have t1T := g2 t1 e1 rfl
          have nx := pX_next n1 (l + 1) none dp t t1 e1 (by omega) (fun q => absurd rfl q) (g1 n1 (Nat.le_refl _))
          have := (nx.2.2.1 rfl).1
          obtain ⟨n2, r2, g3, g4⟩ := ih' l (some e1) dp t1 (by omega) hl (fun _ => ⟨by omega, c1, by
            by_cases q : l + 1 ≤ 10
            · have := nx.1 (by omega) q; omega
            · have := sgL_le (K t1); omega⟩) (by rw [if_neg (by simp)]; omega)
          refine ⟨max n1 n2 + 1, r2, fun m hm => ?_, g4⟩
          rw [show m = m - 1 + 1 by omega]
          unfold pX
          rw [if_neg c0, if_pos c1, g1 (m - 1) (by omega)]
          exact g3 (m - 1) (by omega)
      · by_cases c2 : 30 < dp
        · refine ⟨1, .error t, fun m hm => ?_, fun _ _ q => by cases q⟩
          rw [show m = m - 1 + 1 by omega]
          unfold pX
          rw [if_neg c0, if_neg c1, if_pos c2]
        · by_cases c3 : K t = 19 ∨ K t = 20 ∨ K t = 15
          · have hne : t ≠ T := fun q => by rw [q, hT] at c3; revert c3; decide
            obtain ⟨n1, r1, g1, g2⟩ := ih' 11 none (dp + 1) (t + 1) (by omega) (by omega) (fun q => absurd rfl q) (by rw [if_pos rfl]; omega)
            match r1, g1, g2 with
            | .error x, g1, _ =>
              refine ⟨n1 + 1, .error x, fun m hm => ?_, fun _ _ q => by cases q⟩
              rw [show m = m - 1 + 1 by omega]
              unfold pX
              rw [if_neg c0, if_neg c1, if_neg c2, if_pos c3, g1 (m - 1) (by omega)]; rfl
            | .ok (t1, e1), g1, g2 =>
              refine ⟨n1 + 1, .ok (t1, eU (if K t = 15 then 21 else K t) e1), fun m hm => ?_, fun t' e' q => by cases q; exact g2 t1 e1 rfl⟩
              rw [show m = m - 1 + 1 by omega]
              unfold pX
              rw [if_neg c0, if_neg c1, if_neg c2, if_pos c3, g1 (m - 1) (by omega)]; rfl
          · by_cases c4 : K t = 35
            · have hne : t ≠ T := fun q => by rw [q, hT] at c4; cases c4
              obtain ⟨n1, r1, g1, g2⟩ := ih' 0 none (dp + 1) (t + 1) (by omega) (by omega) (fun q => absurd rfl q) (by rw [if_pos rfl]; omega)
              match r1, g1, g2 with
              | .error x, g1, _ =>
                refine ⟨n1 + 1, .error x, fun m hm => ?_, fun _ _ q => by cases q⟩
                rw [show m = m - 1 + 1 by omega]
                unfold pX
                rw [if_neg c0, if_neg c1, if_neg c2, if_neg c3, if_pos c4, g1 (m - 1) (by omega)]; rfl
              | .ok (t1, e1), g1, g2 =>
                have t1T := g2 t1 e1 rfl
                by_cases c5 : K t1 = 36
                · have hne1 : t1 ≠ T := fun q => by rw [q, hT] at c5; cases c5
                  refine ⟨n1 + 1, .ok (t1 + 1, e1), fun m hm => ?_, fun t' e' q => by cases q; omega⟩
                  rw [show m = m - 1 + 1 by omega]
                  unfold pX
                  rw [if_neg c0, if_neg c1, if_neg c2, if_neg c3, if_pos c4, g1 (m - 1) (by omega)]
                  show (if K t1 = 36 then _ else _) = _
                  rw [if_pos c5]
                · refine ⟨n1 + 1, .error t1, fun m hm => ?_, fun _ _ q => by cases q⟩
                  rw [show m = m - 1 + 1 by omega]
                  unfold pX
                  rw [if_neg c0, if_neg c1, if_neg c2, if_neg c3, if_pos c4, g1 (m - 1) (by omega)]
                  show (if K t1 = 36 then _ else _) = _
                  rw [if_neg c5]
            · by_cases c5 : K t = 23 ∨ K t = 30
              · have hne : t ≠ T := fun q => by rw [q, hT] at c5; revert c5; decide
                refine ⟨1, .ok (t + 1, [N t], (N t).2.2, 0, if B t then none else some t), fun m hm => ?_, fun t' e' q => by cases q; omega⟩
                rw [show m = m - 1 + 1 by omega]
                unfold pX
                rw [if_neg c0, if_neg c1, if_neg c2, if_neg c3, if_neg c4, if_pos c5]
              · refine ⟨1, .error t, fun m hm => ?_, fun _ _ q => by cases q⟩
                rw [show m = m - 1 + 1 by omega]
                unfold pX
                rw [if_neg c0, if_neg c1, if_neg c2, if_neg c3, if_neg c4, if_neg c5]
/-- every EXPR comes to an end -/
theorem pX_end {T : Nat} (hT : K T = 46) (dp t : Nat) (ht : t ≤ T) : ∃ n r, (∀ m, n ≤ m → pX K N B m 0 none dp t = some r) ∧ ∀ t' e, r = .ok (t', e) → t < t' ∧ t' ≤ T ∧ K t' ≠ 34 ∧ sgL (K t') = 0 := by
  obtain ⟨n, r, h1, h2⟩ := pX_ends (N := N) (B := B) hT _ 0 none dp t ht (by omega) (fun q => absurd rfl q) (Nat.le_refl _)
  refine ⟨n, r, h1, fun t' e q => ?_⟩
  subst q
  have nx := pX_next n 0 none dp t t' e (by omega) (fun q => absurd rfl q) (h1 n (Nat.le_refl _))
  exact ⟨(nx.2.2.1 rfl).1, h2 t' e rfl, (nx.2.1 rfl).2, (nx.2.1 rfl).1⟩
end PtP
