/-! what is read is 1 to 8 wide -/
section WdP
variable {K : Nat → Int} {N : Nat → q_It} {B : Nat → Bool}
theorem pX_wid (hN : ∀ t, K t = 23 ∨ K t = 30 → 1 ≤ (N t).2.2 ∧ (N t).2.2 ≤ 8) : ∀ (n l : Nat) (acc : Option q_Ex) (dp t t' : Nat) (e : q_Ex), pX K N B n l acc dp t = some (.ok (t', e)) → (∀ e0, acc = some e0 → (1 ≤ e0.2.1 ∧ e0.2.1 ≤ 8) ∧ wI e0.1) → (1 ≤ e.2.1 ∧ e.2.1 ≤ 8) ∧ wI e.1
  | 0, _, _, _, _, _, _, h, _ => by unfold pX at h; cases h
  | n + 1, l, some e0, dp, t, t', e, h, g => by
    unfold pX at h
    split at h
    · rcases bnd_some h with ⟨y, -, q⟩ | ⟨t2, e2, q1, q2⟩
      · cases q
      · have a := g e0 rfl
        have b := pX_wid hN n _ _ _ _ _ _ q1 (fun e1 q => by cases q)
        refine pX_wid hN n _ _ _ _ _ _ q2 (fun e1 q => ?_)
        cases q
        have w : 1 ≤ oW (K t) e0.2.1 e2.2.1 ∧ oW (K t) e0.2.1 e2.2.1 ≤ 8 := by
          unfold oW
          split
          · omega
          · split <;> omega
        refine ⟨w, ?_⟩
        unfold eB
        exact wI_app.mpr ⟨wI_app.mpr ⟨a.2, b.2⟩, fun x hx => by rw [List.mem_singleton.mp hx]; exact w⟩
    · cases h; exact g e0 rfl
  | n + 1, l, none, dp, t, t', e, h, _ => by
    unfold pX at h
    split at h
    · rcases bnd_some h with ⟨y, -, q⟩ | ⟨t1, e1, q1, q2⟩
      · cases q
      · have a := pX_wid hN n _ _ _ _ _ _ q1 (fun e0 q => by cases q)
        split at q2
        · rcases bnd_some q2 with ⟨y, -, q⟩ | ⟨t2, e2, r1, r2⟩
          · cases q
          · have b := pX_wid hN n _ _ _ _ _ _ r1 (fun e0 q => by cases q)
            split at r2
            · rcases bnd_some r2 with ⟨y, -, q⟩ | ⟨t3, e3, s1, s2⟩
              · cases q
              · have c := pX_wid hN n _ _ _ _ _ _ s1 (fun e0 q => by cases q)
                cases s2
                have w : 1 ≤ max e2.2.1 e3.2.1 ∧ max e2.2.1 e3.2.1 ≤ 8 := by omega
                refine ⟨w, ?_⟩
                unfold eC
                exact wI_app.mpr ⟨wI_app.mpr ⟨wI_app.mpr ⟨a.2, b.2⟩, c.2⟩, fun x hx => by rw [List.mem_singleton.mp hx]; exact w⟩
            · cases r2
        · cases q2; exact a
    · split at h
      · rcases bnd_some h with ⟨y, -, q⟩ | ⟨t1, e1, q1, q2⟩
        · cases q
        · have a := pX_wid hN n _ _ _ _ _ _ q1 (fun e0 q => by cases q)
          exact pX_wid hN n _ _ _ _ _ _ q2 (fun e0 q => by cases q; exact a)
      · split at h
        · cases h
        · split at h
          · rcases bnd_some h with ⟨y, -, q⟩ | ⟨t1, e1, q1, q2⟩
            · cases q
            · have a := pX_wid hN n _ _ _ _ _ _ q1 (fun e0 q => by cases q)
              cases q2
              generalize (if K t = 15 then (21 : Int) else K t) = u
              have w : 1 ≤ uW u e1.2.1 ∧ uW u e1.2.1 ≤ 8 := by
                unfold uW
                split <;> omega
              refine ⟨w, ?_⟩
              unfold eU
              exact wI_app.mpr ⟨a.2, fun x hx => by rw [List.mem_singleton.mp hx]; exact w⟩
          · split at h
            · rcases bnd_some h with ⟨y, -, q⟩ | ⟨t1, e1, q1, q2⟩
              · cases q
              · have a := pX_wid hN n _ _ _ _ _ _ q1 (fun e0 q => by cases q)
                split at q2
                · cases q2; exact a
                · cases q2
            · split at h
              · next c =>
                cases h
                exact ⟨hN t c, fun x hx => by rw [List.mem_singleton.mp hx]; exact hN t c⟩
              · cases h
/-- an oracle that says nothing behind the TEXT's end -/
theorem XO_ex2 {T : Nat} (hT : K T = 46) : ∃ X, XO X K N B T ∧ ∀ dp t, T < t → X dp t = .error t := by
  obtain ⟨X, h⟩ := XO_ex (K := K) (N := N) (B := B) hT
  refine ⟨fun dp t => if t ≤ T then X dp t else .error t, fun dp t ht => ?_, fun dp t ht => if_neg (by omega)⟩
  have := h dp t ht
  show enf (fun m => pX K N B m 0 none dp t) (if t ≤ T then X dp t else .error t)
  rw [if_pos ht]
  exact this
theorem XO_wid {X : Nat → Nat → q_PR} {T dp t t' : Nat} {e : q_Ex} (hN : ∀ t, K t = 23 ∨ K t = 30 → 1 ≤ (N t).2.2 ∧ (N t).2.2 ≤ 8) (hX : XO X K N B T) (h2 : ∀ dp t, T < t → X dp t = .error t) (h : X dp t = .ok (t', e)) : wI e.1 := by
  by_cases c : t ≤ T
  · obtain ⟨n, hn⟩ := hX dp t c
    have hn1 : pX K N B n 0 none dp t = some (X dp t) := hn n (Nat.le_refl _)
    rw [h] at hn1
    exact (pX_wid hN n 0 none dp t t' e hn1 (fun e0 q => by cases q)).2
  · rw [h2 dp t (by omega)] at h; cases h
theorem wI_nil : wI [] := fun x hx => by cases hx
theorem wS_1 {x : q_St} (h : wI x.2.2.2) : wS [x] := fun y hy => by rw [List.mem_singleton.mp hy]; exact h
variable {X : Nat → Nat → q_PR} {V : Nat}
theorem pS_wid (hw : ∀ dp t t' e, X dp t = .ok (t', e) → wI e.1) : ∀ (n : Nat) (a : Option q_Sm) (dp lp i as t t' : Nat) (s : q_Sm), pS X K N B V n a dp lp i as t = some (.ok (t', s)) → (∀ a0, a = some a0 → wS a0.1) → wS s.1
  | 0, _, _, _, _, _, _, _, _, h, _ => by unfold pS at h; cases h
  | n + 1, some a, dp, lp, i, as, t, t', s, h, g => by
    rw [pS_s] at h
    by_cases c : K t = tmn dp
    · rw [if_pos c] at h; cases h; exact g a rfl
    · rw [if_neg c] at h
      rcases bnS_some h with ⟨x, -, q⟩ | ⟨t1, s1, q1, q2⟩
      · cases q
      · have b := pS_wid hw n none dp lp _ _ t t1 s1 q1 (fun a0 q => by cases q)
        exact pS_wid hw n _ dp lp i as t1 t' s q2 (fun a0 q => by cases q; exact wS_app.mpr ⟨g a rfl, b⟩)
  | n + 1, none, dp, lp, i, as, t, t', s, h, _ => by
    rw [pS_1] at h
    split at h
    · cases h
    · split at h
      · split at h
        · rcases bnX_some h with ⟨x, -, q⟩ | ⟨t1, e, q1, q2⟩
          · cases q
          · split at q2
            · cases q2; exact wS_1 (hw _ _ _ _ q1)
            · cases q2
        · cases h
      · split at h
        · rcases bnX_some h with ⟨x, -, q⟩ | ⟨t1, e, q1, q2⟩
          · cases q
          · split at q2
            · cases q2; exact wS_1 (hw _ _ _ _ q1)
            · cases q2
        · split at h
          · split at h
            · rcases bnX_some h with ⟨x, -, q⟩ | ⟨t1, e, q1, q2⟩
              · cases q
              · split at q2
                · rcases bnS_some q2 with ⟨x, -, q⟩ | ⟨t2, s2, q3, q4⟩
                  · cases q
                  · have b := pS_wid hw n none _ _ _ _ _ _ s2 q3 (fun a0 q => by cases q)
                    split at q4
                    · rcases bnS_some q4 with ⟨x, -, q⟩ | ⟨t3, s3, q5, q6⟩
                      · cases q
                      · have c := pS_wid hw n none _ _ _ _ _ _ s3 q5 (fun a0 q => by cases q)
                        cases q6
                        exact wS_cons.mpr ⟨hw _ _ _ _ q1, wS_app.mpr ⟨b, wS_cons.mpr ⟨wI_nil, wS_app.mpr ⟨c, wS_1 wI_nil⟩⟩⟩⟩
                    · cases q4
                      exact wS_cons.mpr ⟨hw _ _ _ _ q1, wS_app.mpr ⟨b, wS_1 wI_nil⟩⟩
                · cases q2
            · cases h
          · split at h
            · split at h
              · split at h
                · rcases bnX_some h with ⟨x, -, q⟩ | ⟨t1, e, q1, q2⟩
                  · cases q
                  · split at q2
                    · rcases bnS_some q2 with ⟨x, -, q⟩ | ⟨t2, s2, q3, q4⟩
                      · cases q
                      · have b := pS_wid hw n none _ _ _ _ _ _ s2 q3 (fun a0 q => by cases q)
                        cases q4
                        exact wS_cons.mpr ⟨wI_nil, wS_cons.mpr ⟨hw _ _ _ _ q1, wS_app.mpr ⟨b, wS_1 wI_nil⟩⟩⟩
                    · cases q2
                · cases h
              · cases h
            · split at h
              · rcases bnS_some h with ⟨x, -, q⟩ | ⟨t2, s2, q3, q4⟩
                · cases q
                · have b := pS_wid hw n _ _ _ _ _ _ _ s2 q3 (fun a0 q => by cases q; exact fun x hx => by cases hx)
                  cases q4; exact b
              · cases h
end WdP
