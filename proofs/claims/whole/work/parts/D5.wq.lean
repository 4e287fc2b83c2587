/-! what every item that is read keeps to -/
def gI (Φ : q_It → Prop) (l : List q_It) : Prop := ∀ x, x ∈ l → Φ x
def gS (Φ : q_It → Prop) (l : List q_St) : Prop := ∀ x, x ∈ l → gI Φ x.2.2.2
section GiP
variable {Φ : q_It → Prop}
theorem gI_app {a b : List q_It} : gI Φ (a ++ b) ↔ gI Φ a ∧ gI Φ b := by
  unfold gI
  constructor
  · intro h; exact ⟨fun x hx => h x (List.mem_append.mpr (Or.inl hx)), fun x hx => h x (List.mem_append.mpr (Or.inr hx))⟩
  · intro h x hx
    rcases List.mem_append.mp hx with q | q
    · exact h.1 x q
    · exact h.2 x q
theorem gS_app {a b : List q_St} : gS Φ (a ++ b) ↔ gS Φ a ∧ gS Φ b := by
  unfold gS
  constructor
  · intro h; exact ⟨fun x hx => h x (List.mem_append.mpr (Or.inl hx)), fun x hx => h x (List.mem_append.mpr (Or.inr hx))⟩
  · intro h x hx
    rcases List.mem_append.mp hx with q | q
    · exact h.1 x q
    · exact h.2 x q
theorem gS_cons {a : q_St} {b : List q_St} : gS Φ (a :: b) ↔ gI Φ a.2.2.2 ∧ gS Φ b := by
  unfold gS
  constructor
  · intro h; exact ⟨h a (by simp), fun x hx => h x (by simp [hx])⟩
  · intro h x hx
    rcases List.mem_cons.mp hx with q | q
    · rw [q]; exact h.1
    · exact h.2 x q
end GiP
section WqP
variable {Φ : q_It → Prop} {K : Nat → Int} {N : Nat → q_It} {B : Nat → Bool}
theorem pX_it (hP : ∀ u w, 1 ≤ u ∧ u ≤ 22 → 1 ≤ w ∧ w ≤ 8 → Φ (u, 0, w)) (hN : ∀ t, K t = 23 ∨ K t = 30 → (1 ≤ (N t).2.2 ∧ (N t).2.2 ≤ 8) ∧ Φ (N t)) : ∀ (n l : Nat) (acc : Option q_Ex) (dp t t' : Nat) (e : q_Ex), pX K N B n l acc dp t = some (.ok (t', e)) → (∀ e0, acc = some e0 → 1 ≤ l ∧ (1 ≤ e0.2.1 ∧ e0.2.1 ≤ 8) ∧ gI Φ e0.1) → (1 ≤ e.2.1 ∧ e.2.1 ≤ 8) ∧ gI Φ e.1
  | 0, _, _, _, _, _, _, h, _ => by unfold pX at h; cases h
  | n + 1, l, some e0, dp, t, t', e, h, g => by
    unfold pX at h
    split at h
    · next cl =>
      rcases bnd_some h with ⟨y, -, q⟩ | ⟨t2, e2, q1, q2⟩
      · cases q
      · have a0 := g e0 rfl
        have a := a0.2
        have ku : 1 ≤ K t ∧ K t ≤ 18 := Decidable.byContradiction fun q => by
          have := sgL_0.mpr q
          omega
        have b := pX_it hP hN n _ _ _ _ _ _ q1 (fun e1 q => by cases q)
        refine pX_it hP hN n _ _ _ _ _ _ q2 (fun e1 q => ?_)
        cases q
        have w : 1 ≤ oW (K t) e0.2.1 e2.2.1 ∧ oW (K t) e0.2.1 e2.2.1 ≤ 8 := by
          unfold oW
          split
          · omega
          · split <;> omega
        refine ⟨a0.1, w, ?_⟩
        unfold eB
        exact gI_app.mpr ⟨gI_app.mpr ⟨a.2, b.2⟩, fun x hx => by rw [List.mem_singleton.mp hx]; exact hP _ _ (by omega) w⟩
    · cases h; exact (g e0 rfl).2
  | n + 1, l, none, dp, t, t', e, h, _ => by
    unfold pX at h
    split at h
    · rcases bnd_some h with ⟨y, -, q⟩ | ⟨t1, e1, q1, q2⟩
      · cases q
      · have a := pX_it hP hN n _ _ _ _ _ _ q1 (fun e0 q => by cases q)
        split at q2
        · rcases bnd_some q2 with ⟨y, -, q⟩ | ⟨t2, e2, r1, r2⟩
          · cases q
          · have b := pX_it hP hN n _ _ _ _ _ _ r1 (fun e0 q => by cases q)
            split at r2
            · rcases bnd_some r2 with ⟨y, -, q⟩ | ⟨t3, e3, s1, s2⟩
              · cases q
              · have c := pX_it hP hN n _ _ _ _ _ _ s1 (fun e0 q => by cases q)
                cases s2
                have w : 1 ≤ max e2.2.1 e3.2.1 ∧ max e2.2.1 e3.2.1 ≤ 8 := by omega
                refine ⟨w, ?_⟩
                unfold eC
                exact gI_app.mpr ⟨gI_app.mpr ⟨gI_app.mpr ⟨a.2, b.2⟩, c.2⟩, fun x hx => by rw [List.mem_singleton.mp hx]; exact hP _ _ ⟨by decide, by decide⟩ w⟩
            · cases r2
        · cases q2; exact a
    · split at h
      · rcases bnd_some h with ⟨y, -, q⟩ | ⟨t1, e1, q1, q2⟩
        · cases q
        · have a := pX_it hP hN n _ _ _ _ _ _ q1 (fun e0 q => by cases q)
          exact pX_it hP hN n _ _ _ _ _ _ q2 (fun e0 q => by cases q; exact ⟨by omega, a⟩)
      · split at h
        · cases h
        · split at h
          · next cu =>
            rcases bnd_some h with ⟨y, -, q⟩ | ⟨t1, e1, q1, q2⟩
            · cases q
            · have a := pX_it hP hN n _ _ _ _ _ _ q1 (fun e0 q => by cases q)
              cases q2
              have hu : 1 ≤ (if K t = 15 then (21 : Int) else K t) ∧ (if K t = 15 then (21 : Int) else K t) ≤ 22 := by split <;> omega
              generalize (if K t = 15 then (21 : Int) else K t) = u at hu
              have w : 1 ≤ uW u e1.2.1 ∧ uW u e1.2.1 ≤ 8 := by
                unfold uW
                split <;> omega
              refine ⟨w, ?_⟩
              unfold eU
              exact gI_app.mpr ⟨a.2, fun x hx => by rw [List.mem_singleton.mp hx]; exact hP _ _ hu w⟩
          · split at h
            · rcases bnd_some h with ⟨y, -, q⟩ | ⟨t1, e1, q1, q2⟩
              · cases q
              · have a := pX_it hP hN n _ _ _ _ _ _ q1 (fun e0 q => by cases q)
                split at q2
                · cases q2; exact a
                · cases q2
            · split at h
              · next c =>
                cases h
                exact ⟨(hN t c).1, fun x hx => by rw [List.mem_singleton.mp hx]; exact (hN t c).2⟩
              · cases h
theorem XO_it {X : Nat → Nat → q_PR} {T dp t t' : Nat} {e : q_Ex} (hP : ∀ u w, 1 ≤ u ∧ u ≤ 22 → 1 ≤ w ∧ w ≤ 8 → Φ (u, 0, w)) (hN : ∀ t, K t = 23 ∨ K t = 30 → (1 ≤ (N t).2.2 ∧ (N t).2.2 ≤ 8) ∧ Φ (N t)) (hX : XO X K N B T) (h2 : ∀ dp t, T < t → X dp t = .error t) (h : X dp t = .ok (t', e)) : gI Φ e.1 := by
  by_cases c : t ≤ T
  · obtain ⟨n, hn⟩ := hX dp t c
    have hn1 : pX K N B n 0 none dp t = some (X dp t) := hn n (Nat.le_refl _)
    rw [h] at hn1
    exact (pX_it hP hN n 0 none dp t t' e hn1 (fun e0 q => by cases q)).2
  · rw [h2 dp t (by omega)] at h; cases h
theorem gI_nil : gI Φ [] := fun x hx => by cases hx
theorem gS_1 {x : q_St} (h : gI Φ x.2.2.2) : gS Φ [x] := fun y hy => by rw [List.mem_singleton.mp hy]; exact h
variable {X : Nat → Nat → q_PR} {V : Nat}
theorem pS_it (hw : ∀ dp t t' e, X dp t = .ok (t', e) → gI Φ e.1) : ∀ (n : Nat) (a : Option q_Sm) (dp lp i as t t' : Nat) (s : q_Sm), pS X K N B V n a dp lp i as t = some (.ok (t', s)) → (∀ a0, a = some a0 → gS Φ a0.1) → gS Φ s.1
  | 0, _, _, _, _, _, _, _, _, h, _ => by unfold pS at h; cases h
  | n + 1, some a, dp, lp, i, as, t, t', s, h, g => by
    rw [pS_s] at h
    by_cases c : K t = tmn dp
    · rw [if_pos c] at h; cases h; exact g a rfl
    · rw [if_neg c] at h
      rcases bnS_some h with ⟨x, -, q⟩ | ⟨t1, s1, q1, q2⟩
      · cases q
      · have b := pS_it hw n none dp lp _ _ t t1 s1 q1 (fun a0 q => by cases q)
        exact pS_it hw n _ dp lp i as t1 t' s q2 (fun a0 q => by cases q; exact gS_app.mpr ⟨g a rfl, b⟩)
  | n + 1, none, dp, lp, i, as, t, t', s, h, _ => by
    rw [pS_1] at h
    split at h
    · cases h
    · split at h
      · split at h
        · rcases bnX_some h with ⟨x, -, q⟩ | ⟨t1, e, q1, q2⟩
          · cases q
          · split at q2
            · cases q2; exact gS_1 (hw _ _ _ _ q1)
            · cases q2
        · cases h
      · split at h
        · rcases bnX_some h with ⟨x, -, q⟩ | ⟨t1, e, q1, q2⟩
          · cases q
          · split at q2
            · cases q2; exact gS_1 (hw _ _ _ _ q1)
            · cases q2
        · split at h
          · split at h
            · rcases bnX_some h with ⟨x, -, q⟩ | ⟨t1, e, q1, q2⟩
              · cases q
              · split at q2
                · rcases bnS_some q2 with ⟨x, -, q⟩ | ⟨t2, s2, q3, q4⟩
                  · cases q
                  · have b := pS_it hw n none _ _ _ _ _ _ s2 q3 (fun a0 q => by cases q)
                    split at q4
                    · rcases bnS_some q4 with ⟨x, -, q⟩ | ⟨t3, s3, q5, q6⟩
                      · cases q
                      · have c := pS_it hw n none _ _ _ _ _ _ s3 q5 (fun a0 q => by cases q)
                        cases q6
                        exact gS_cons.mpr ⟨hw _ _ _ _ q1, gS_app.mpr ⟨b, gS_cons.mpr ⟨gI_nil, gS_app.mpr ⟨c, gS_1 gI_nil⟩⟩⟩⟩
                    · cases q4
                      exact gS_cons.mpr ⟨hw _ _ _ _ q1, gS_app.mpr ⟨b, gS_1 gI_nil⟩⟩
                · cases q2
            · cases h
          · split at h
            · split at h
              · split at h
                · rcases bnX_some h with ⟨x, -, q⟩ | ⟨t1, e, q1, q2⟩
                  · cases q
                  · split at q2
                    · rcases bnS_some q2 with ⟨x, -, q⟩ | ⟨t2, s2, q3, q4⟩
                      · cases q
                      · have b := pS_it hw n none _ _ _ _ _ _ s2 q3 (fun a0 q => by cases q)
                        cases q4
                        exact gS_cons.mpr ⟨gI_nil, gS_cons.mpr ⟨hw _ _ _ _ q1, gS_app.mpr ⟨b, gS_1 gI_nil⟩⟩⟩
                    · cases q2
                · cases h
              · cases h
            · split at h
              · rcases bnS_some h with ⟨x, -, q⟩ | ⟨t2, s2, q3, q4⟩
                · cases q
                · have b := pS_it hw n _ _ _ _ _ _ _ s2 q3 (fun a0 q => by cases q; exact fun x hx => by cases hx)
                  cases q4; exact b
              · cases h
end WqP
