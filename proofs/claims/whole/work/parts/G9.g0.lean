/-! A TEXT that was read: its trees, for the encoder -/
def fK (f : Option (Int × Nat)) : Prop := ∀ y, f = some y → y.1 ≠ 0
theorem fK_or {a b : Option (Int × Nat)} (ha : fK a) (hb : fK b) : fK (a.or b) := by
  cases a with
  | none => exact hb
  | some x => exact ha
theorem fK_n : fK none := fun y q => by cases q
theorem fK_s {k : Int} {t : Nat} (h : k ≠ 0) : fK (some (k, t)) := fun y q => by cases q; exact h
theorem fK_x {e : q_Ex} : fK (xF e) := by
  unfold xF
  cases e.2.2.2 with
  | none => exact fK_n
  | some x => exact fK_s (by decide)
theorem fK_t {N : Nat → q_It} {B : Nat → Bool} {t : Nat} : fK (tgF N B t) := by
  unfold tgF
  split
  · exact fK_s (by decide)
  · split
    · exact fK_s (by decide)
    · exact fK_n
theorem fK_l {k : Int} {t : Nat} : fK (lpF k t) := by
  unfold lpF
  split
  · exact fK_s (by decide)
  · exact fK_n
theorem fK_add {K v : Nat → Int} {C : Nat → Int64} {t : Nat} {D : q_Ds} (h : fK D.2.2) : fK (dAdd K v C t D).2.2 := by
  unfold dAdd
  split
  · exact fK_or h (fK_s (by decide))
  · split
    · exact fK_or h (fK_s (by decide))
    · split
      · split
        · exact fK_or h (fK_s (by decide))
        · exact h
      · split
        · exact fK_or h (fK_s (by decide))
        · exact h
theorem fK_pD {K v : Nat → Int} {C : Nat → Int64} : ∀ (m t : Nat) (D : q_Ds) (t' : Nat) (D' : q_Ds), pD K v C m t D = some (.ok (t', D')) → fK D.2.2 → fK D'.2.2
  | 0, _, _, _, _, h, _ => by cases h
  | m + 1, t, D, t', D', h, g => by
    rw [pD_s] at h
    split at h
    · split at h
      · split at h
        · split at h
          · split at h
            · exact fK_pD m _ _ t' D' h (fK_add g)
            · cases h
          · cases h
        · cases h
      · cases h
    · cases h; exact g
section FkP
variable {X : Nat → Nat → q_PR} {K : Nat → Int} {N : Nat → q_It} {B : Nat → Bool} {V : Nat}
theorem fK_pS : ∀ (n : Nat) (a : Option q_Sm) (dp lp i as t t' : Nat) (s : q_Sm), pS X K N B V n a dp lp i as t = some (.ok (t', s)) → (∀ a0, a = some a0 → fK a0.2.2.1) → fK s.2.2.1
  | 0, _, _, _, _, _, _, _, _, h, _ => by unfold pS at h; cases h
  | n + 1, some a, dp, lp, i, as, t, t', s, h, g => by
    rw [pS_s] at h
    by_cases c : K t = tmn dp
    · rw [if_pos c] at h; cases h; exact g a rfl
    · rw [if_neg c] at h
      rcases bnS_some h with ⟨x, -, q⟩ | ⟨t1, s1, q1, q2⟩
      · cases q
      · have b := fK_pS n none dp lp _ _ t t1 s1 q1 (fun a0 q => by cases q)
        exact fK_pS n _ dp lp i as t1 t' s q2 (fun a0 q => by cases q; exact fK_or (g a rfl) b)
  | n + 1, none, dp, lp, i, as, t, t', s, h, _ => by
    rw [pS_1] at h
    split at h
    · cases h
    · split at h
      · split at h
        · rcases bnX_some h with ⟨x, -, q⟩ | ⟨t1, e, q1, q2⟩
          · cases q
          · split at q2
            · cases q2; exact fK_or fK_t fK_x
            · cases q2
        · cases h
      · split at h
        · rcases bnX_some h with ⟨x, -, q⟩ | ⟨t1, e, q1, q2⟩
          · cases q
          · split at q2
            · cases q2; exact fK_x
            · cases q2
        · split at h
          · split at h
            · rcases bnX_some h with ⟨x, -, q⟩ | ⟨t1, e, q1, q2⟩
              · cases q
              · split at q2
                · rcases bnS_some q2 with ⟨x, -, q⟩ | ⟨t2, s2, q3, q4⟩
                  · cases q
                  · have b := fK_pS n none _ _ _ _ _ _ s2 q3 (fun a0 q => by cases q)
                    split at q4
                    · rcases bnS_some q4 with ⟨x, -, q⟩ | ⟨t3, s3, q5, q6⟩
                      · cases q
                      · have c := fK_pS n none _ _ _ _ _ _ s3 q5 (fun a0 q => by cases q)
                        cases q6
                        exact fK_or (fK_or fK_x b) c
                    · cases q4
                      exact fK_or fK_x b
                · cases q2
            · cases h
          · split at h
            · split at h
              · split at h
                · rcases bnX_some h with ⟨x, -, q⟩ | ⟨t1, e, q1, q2⟩
                  · cases q
                  · split at q2
                    · rcases bnS_some q2 with ⟨x, -, q⟩ | ⟨t2, s2, q3, q4⟩
                      · cases q
                      · have b := fK_pS n none _ _ _ _ _ _ s2 q3 (fun a0 q => by cases q)
                        cases q4
                        exact fK_or (fK_or fK_l fK_x) b
                    · cases q2
                · cases h
              · cases h
            · split at h
              · rcases bnS_some h with ⟨x, -, q⟩ | ⟨t2, s2, q3, q4⟩
                · cases q
                · have b := fK_pS n _ _ _ _ _ _ _ s2 q3 (fun a0 q => by cases q; exact fK_n)
                  cases q4; exact b
              · cases h
end FkP
/-- WIDTHS of INPUTS; where there is none, of no bound -/
def wI6 (D : q_Ds) (f : Nat → Int) (i : Nat) : Int := if i < D.1.length then f i else 31
section PtP
variable {q T n : Nat} {X : Nat → Nat → q_PR} {rD : Except Nat (Nat × q_Ds)} {rS : q_SR} {τ : q_H} {t' : Nat} {D' : q_Ds} {t'' : Nat} {sm : q_Sm}
theorem or_nn {α : Type} {a b : Option α} (h : a.or b = none) : a = none ∧ b = none := by
  cases a with
  | none => exact ⟨rfl, h⟩
  | some x => cases h
theorem PB_TS (hP : PB q T n X rD rS τ) (hr1 : rD = .ok (t', D')) (hr2 : rS = .ok (t'', sm)) (hF : D'.2.2.or sm.2.2.1 = none) (hdp : DP (z τ 4) (q_l τ 6) t' D') : TS D'.2.1.length (fun e => PE (cI (wI6 D' (z τ (q + 1))) (z τ (q + 3)) D'.2.1.length) e ∧ hB e.1 0 = some 1) true 0 0 0 0 sm.1 sm.2.1 sm.2.2.2 := by
  obtain ⟨kt, ⟨hX, hX2⟩, -, hS, -, hG⟩ := hP
  obtain ⟨tT, dq, mm, hm⟩ := hS t' D' hr1
  rw [hr2] at hm
  have nok := nm_ok (WI := wI6 D' (z τ (q + 1))) (fun j hj => by unfold wI6; rw [if_pos hj]) kt.1 dq hdp
  have w := pS_TS (V := D'.2.1.length) (X := X) (K := z τ 4) (N := nmI q τ) (B := nmB q τ) (T := T) (Ex := fun e => PE (cI (wI6 D' (z τ (q + 1))) (z τ (q + 3)) D'.2.1.length) e ∧ hB e.1 0 = some 1) kt.2.2 (fun dp t t1 e he => ?_) (fun t ht hk hn => ?_) (fun t ht hk => ?_) mm (some ([], 0, none, 0)) 0 0 0 0 t' t'' sm hm tT (fun a0 q1 _ => by cases q1; exact (TS_c _ _).2.2.2.2.2.2.2.1 0 0 0 0)
  · exact w.2 (or_nn hF).2
  · obtain ⟨a, b⟩ := XO_PE (Φ := cI (wI6 D' (z τ (q + 1))) (z τ (q + 3)) D'.2.1.length) kt.2.2 (fun t ht hk _ => ⟨(nok t ht hk).2.1, (nok t ht hk).2.2⟩) hX hX2 he
    obtain ⟨c, -⟩ := XO_all (Φ := cI (wI6 D' (z τ (q + 1))) (z τ (q + 3)) D'.2.1.length) kt.2.2 cI_op nok hX hX2 he
    exact ⟨a, fun hn => ⟨b hn, c.2.1 0 (by decide)⟩⟩
  · have o := nok t ht (Or.inr hk)
    unfold tgF at hn
    split at hn
    · cases hn
    · split at hn
      · cases hn
      · next c1 c2 =>
        unfold tgV
        split
        · next c25 =>
          obtain ⟨a1, a2, -⟩ := o.2.2.2.2.2 c25
          exact ⟨a1.1, a2⟩
        · next c25 =>
          exfalso
          have bT : nmB q τ t = true := by simpa using c1
          have hf : fnd q τ (q_l τ 6 t) ≠ -1 := by
            unfold nmB at bT
            rcases of_decide_eq_true bT with w | w
            · omega
            · exact w
          unfold nmI at c2 c25
          rw [if_neg (by omega), if_neg hf] at c2 c25
          split at c2
          · exact c2 rfl
          · next w => rw [if_neg w] at c25; exact c25 rfl
  · have o := nok t ht (Or.inl hk)
    by_cases c : (nmI q τ t).1 = 23
    · exact (o.2.2.2.1 c).1
    · by_cases c2 : (nmI q τ t).1 = 24
      · exact (o.2.2.2.2.1 c2).1.1
      · exact (o.2.2.2.2.2 (by have := o.2.1; omega)).1.1
/-- a TEXT without FAULT -/
theorem PB_enc (hP : PB q T n X rD rS τ) (h9 : z τ q 9 = 0) : ∃ t' D' t'' sm, rD = .ok (t', D') ∧ rS = .ok (t'', sm) ∧ D'.2.2.or sm.2.2.1 = none ∧ sm.2.1 ≤ 1500 ∧ DP (z τ 4) (q_l τ 6) t' D' ∧ PS2 q (wI6 D' (z τ (q + 1))) D'.2.1.length sm.1 τ ∧ TS D'.2.1.length (fun e => PE (cI (wI6 D' (z τ (q + 1))) (z τ (q + 3)) D'.2.1.length) e ∧ hB e.1 0 = some 1) true 0 0 0 0 sm.1 sm.2.1 sm.2.2.2 ∧ z τ q 4 = (D'.2.1.length : Int) ∧ z τ q 7 = (sm.2.2.2 : Int) ∧ (∀ i, i < 12 → wI6 D' (z τ (q + 1)) i ≤ 8 → (i : Int) < z τ q 0 ∧ wI6 D' (z τ (q + 1)) i = z τ (q + 1) i) := by
  have hP' := hP
  obtain ⟨kt, ⟨hX, hX2⟩, hD, hS, hO, hG⟩ := hP'
  have h0 : (bO (z τ 5) n rD rS).1 = 0 := by rw [← hO.1]; exact h9
  cases rD with
  | error x => exact absurd h0 (show (1 : Int) ≠ 0 by decide)
  | ok a =>
    cases rS with
    | error x => exact absurd h0 (show (1 : Int) ≠ 0 by decide)
    | ok b =>
      obtain ⟨t', D'⟩ := a
      obtain ⟨t'', sm⟩ := b
      obtain ⟨tT, dq, mm, hm⟩ := hS t' D' rfl
      have k1 : fK D'.2.2 := fK_pD _ _ _ _ _ hD fK_n
      have k2 : fK sm.2.2.1 := fK_pS _ _ _ _ _ _ _ _ _ hm (fun a0 q => by cases q; exact fK_n)
      have hdp : DP (z τ 4) (q_l τ 6) t' D' := DP_pD _ _ _ _ _ hD DP_0
      rw [bO_1 rfl rfl] at h0
      have hF : D'.2.2.or sm.2.2.1 = none := by
        cases hf : D'.2.2.or sm.2.2.1 with
        | none => rfl
        | some y =>
          rw [hf] at h0
          exact absurd h0 (fK_or k1 k2 y hf)
      rw [hF] at h0
      have hw : sm.2.1 ≤ 1500 := Decidable.byContradiction fun c => by
        have h0' : (if 1500 < sm.2.1 then ((7 : Int), (n : Int)) else (0, -1)).1 = 0 := h0
        rw [if_pos (by omega)] at h0'
        exact absurd h0' (show ¬ (7 : Int) = 0 by decide)
      obtain ⟨gp, h11, hls, hit, h7, h8⟩ := hG t' D' t'' sm rfl rfl
      have sok := st_ok (WI := wI6 D' (z τ (q + 1))) (fun j hj => by unfold wI6; rw [if_pos hj]) kt.1 kt.2.2 dq hdp hX hX2 hm
      obtain ⟨d0, d4, d1, dI, dV⟩ := id dq
      refine ⟨t', D', t'', sm, rfl, rfl, hF, hw, hdp, ⟨gp, h11, hls, hit, sok⟩, PB_TS hP rfl rfl hF hdp, d4, h7, fun i _ hi => ?_⟩
      unfold wI6 at hi ⊢
      split at hi
      · next c => rw [if_pos c, d0]; exact ⟨by omega, rfl⟩
      · exact absurd hi (by decide)
end PtP
