/-! EXPRS and STATEMENTS that were read from a TEXT: what their items keep to -/
section AlP
variable {Φ : q_It → Prop} {K : Nat → Int} {N : Nat → q_It} {B : Nat → Bool}
theorem pX_all {T : Nat} (hT : K T = 46) (hP : ∀ u w, 1 ≤ u ∧ u ≤ 22 → 1 ≤ w ∧ w ≤ 8 → Φ (u, 0, w)) (hN : ∀ t, t ≤ T → K t = 23 ∨ K t = 30 → (1 ≤ (N t).2.2 ∧ (N t).2.2 ≤ 8) ∧ (23 ≤ (N t).1 ∧ (N t).1 ≤ 25) ∧ Φ (N t)) : ∀ (n l : Nat) (acc : Option q_Ex) (dp t t' : Nat) (e : q_Ex), pX K N B n l acc dp t = some (.ok (t', e)) → t ≤ T → l ≤ 11 → (acc = none ∨ 1 ≤ l) → (∀ e0, acc = some e0 → XG (xB l dp) e0 ∧ gI Φ e0.1) → t' ≤ T ∧ XG (xB l dp) e ∧ gI Φ e.1
  | 0, _, _, _, _, _, _, h, _, _, _, _ => by unfold pX at h; cases h
  | n + 1, l, some e0, dp, t, t', e, h, tT, hl, ha, g => by
    unfold pX at h
    have ne : ∀ j, j ≤ T → K j ≠ 46 → j + 1 ≤ T := fun j h1 h2 => Nat.succ_le_of_lt (Nat.lt_of_le_of_ne h1 (fun e => h2 (by rw [e]; exact hT)))
    have l1 : 1 ≤ l := by rcases ha with q | q; cases q; exact q
    split at h
    · next cl =>
      rcases bnd_some h with ⟨y, -, q⟩ | ⟨t2, e2, q1, q2⟩
      · cases q
      · have ku : 1 ≤ K t ∧ K t ≤ 18 := Decidable.byContradiction fun q => by
          have := sgL_0.mpr q
          omega
        have k10 := sgL_le (K t)
        have t1 : t + 1 ≤ T := ne t tT (by omega)
        have b := pX_all hT hP hN n _ _ _ _ _ _ q1 t1 (by omega) (Or.inl rfl) (fun e1 q => by cases q)
        refine pX_all hT hP hN n _ _ _ _ _ _ q2 b.1 hl (Or.inr l1) (fun e1 q => ?_)
        cases q
        have w := (XG_two (g e0 rfl).1 b.2.1 ku (Nat.le_refl _) (show xB (l + 1) dp + 1 ≤ xB l dp by unfold xB; omega))
        exact ⟨w, gI_app.mpr ⟨gI_app.mpr ⟨(g e0 rfl).2, b.2.2⟩, fun x hx => by rw [List.mem_singleton.mp hx]; exact hP _ _ (by omega) w.1⟩⟩
    · cases h; exact ⟨tT, g e0 rfl⟩
  | n + 1, l, none, dp, t, t', e, h, tT, hl, ha, g => by
    unfold pX at h
    have ne : ∀ j, j ≤ T → K j ≠ 46 → j + 1 ≤ T := fun j h1 h2 => Nat.succ_le_of_lt (Nat.lt_of_le_of_ne h1 (fun e => h2 (by rw [e]; exact hT)))
    split at h
    · next cl =>
      subst cl
      rcases bnd_some h with ⟨y, -, q⟩ | ⟨t1, e1, q1, q2⟩
      · cases q
      · have a := pX_all hT hP hN n _ _ _ _ _ _ q1 tT (by omega) (Or.inl rfl) (fun e0 q => by cases q)
        have dp30 : dp ≤ 30 := ((pX_next n 1 none dp t t1 e1 (by omega) (fun q => absurd rfl q) q1).2.2.1 rfl).2
        split at q2
        · next k34 =>
          rcases bnd_some q2 with ⟨y, -, q⟩ | ⟨t2, e2, r1, r2⟩
          · cases q
          · have b := pX_all hT hP hN n _ _ _ _ _ _ r1 (ne t1 a.1 (by omega)) (by omega) (Or.inl rfl) (fun e0 q => by cases q)
            split at r2
            · next k33 =>
              rcases bnd_some r2 with ⟨y, -, q⟩ | ⟨t3, e3, s1, s2⟩
              · cases q
              · have c := pX_all hT hP hN n _ _ _ _ _ _ s1 (ne t2 b.1 (by omega)) (by omega) (Or.inl rfl) (fun e0 q => by cases q)
                cases s2
                have w := XG_cho a.2.1 b.2.1 c.2.1 (show xB 1 dp ≤ xB 0 dp by unfold xB; omega) (show xB 0 (dp + 1) + 2 ≤ xB 0 dp by unfold xB; omega)
                exact ⟨c.1, w, gI_app.mpr ⟨gI_app.mpr ⟨gI_app.mpr ⟨a.2.2, b.2.2⟩, c.2.2⟩, fun x hx => by rw [List.mem_singleton.mp hx]; exact hP _ _ ⟨by decide, by decide⟩ w.1⟩⟩
            · cases r2
        · cases q2; exact ⟨a.1, XG_le a.2.1 (by unfold xB; omega), a.2.2⟩
    · split at h
      · next c0 c10 =>
        rcases bnd_some h with ⟨y, -, q⟩ | ⟨t1, e1, q1, q2⟩
        · cases q
        · have a := pX_all hT hP hN n _ _ _ _ _ _ q1 tT (by omega) (Or.inl rfl) (fun e0 q => by cases q)
          exact pX_all hT hP hN n _ _ _ _ _ _ q2 a.1 hl (Or.inr (by omega)) (fun e0 q => by cases q; exact ⟨XG_le a.2.1 (by unfold xB; omega), a.2.2⟩)
      · next c0 c10 =>
        have l11 : l = 11 := by omega
        subst l11
        split at h
        · cases h
        · next dp30 =>
          split at h
          · next cu =>
            rcases bnd_some h with ⟨y, -, q⟩ | ⟨t1, e1, q1, q2⟩
            · cases q
            · have a := pX_all hT hP hN n _ _ _ _ _ _ q1 (ne t tT (by omega)) (by omega) (Or.inl rfl) (fun e0 q => by cases q)
              cases q2
              have hu : 19 ≤ (if K t = 15 then (21 : Int) else K t) ∧ (if K t = 15 then (21 : Int) else K t) ≤ 21 := by split <;> omega
              have w := XG_one a.2.1 hu
              exact ⟨a.1, XG_le w (by unfold xB; omega), gI_app.mpr ⟨a.2.2, fun x hx => by rw [List.mem_singleton.mp hx]; exact hP _ _ (by omega) w.1⟩⟩
          · split at h
            · next k35 =>
              rcases bnd_some h with ⟨y, -, q⟩ | ⟨t1, e1, q1, q2⟩
              · cases q
              · have a := pX_all hT hP hN n _ _ _ _ _ _ q1 (ne t tT (by omega)) (by omega) (Or.inl rfl) (fun e0 q => by cases q)
                split at q2
                · next k36 => cases q2; exact ⟨ne t1 a.1 (by omega), XG_le a.2.1 (by unfold xB; omega), a.2.2⟩
                · cases q2
            · split at h
              · next c =>
                cases h
                have hn := hN t tT c
                refine ⟨ne t tT (by omega), ⟨hn.1, EH_le (EH_leaf hn.2.1.1) (by unfold xB; omega), fun I U hv => ?_⟩, fun x hx => by rw [List.mem_singleton.mp hx]; exact hn.2.2⟩
                have v1 := hv (N t) (List.mem_singleton.mpr rfl)
                have eN : N t = ((N t).1, (N t).2.1, (N t).2.2) := rfl
                have ck : (N t).1 = 23 ∨ (N t).1 = 24 ∨ (N t).1 = 25 := by omega
                rcases ck with q | q | q
                · refine ⟨(N t).2.1.toNat, ?_, ?_, (v1.1 q).2⟩
                  · rw [eN, q]; exact EV_num
                  · rw [eN, q]; exact EVc_num
                · refine ⟨I (N t).2.1.toNat, ?_, ?_, v1.2.1 q⟩
                  · rw [eN, q]; exact EV_inp
                  · rw [eN, q]; exact EVc_inp
                · refine ⟨U (N t).2.1.toNat, ?_, ?_, v1.2.2 q⟩
                  · rw [eN, q]; exact EV_var
                  · rw [eN, q]; exact EVc_var
              · cases h
theorem XO_all {X : Nat → Nat → q_PR} {T dp t t' : Nat} {e : q_Ex} (hT : K T = 46) (hP : ∀ u w, 1 ≤ u ∧ u ≤ 22 → 1 ≤ w ∧ w ≤ 8 → Φ (u, 0, w)) (hN : ∀ t, t ≤ T → K t = 23 ∨ K t = 30 → (1 ≤ (N t).2.2 ∧ (N t).2.2 ≤ 8) ∧ (23 ≤ (N t).1 ∧ (N t).1 ≤ 25) ∧ Φ (N t)) (hX : XO X K N B T) (h2 : ∀ dp t, T < t → X dp t = .error t) (h : X dp t = .ok (t', e)) : XG 400 e ∧ gI Φ e.1 := by
  by_cases c : t ≤ T
  · obtain ⟨n, hn⟩ := hX dp t c
    have hn1 : pX K N B n 0 none dp t = some (X dp t) := hn n (Nat.le_refl _)
    rw [h] at hn1
    have a := pX_all hT hP hN n 0 none dp t t' e hn1 c (by omega) (Or.inl rfl) (fun e0 q => by cases q)
    exact ⟨XG_le a.2.1 (by unfold xB; omega), a.2.2⟩
  · rw [h2 dp t (by omega)] at h; cases h
def gG (G : List q_It → Prop) (l : List q_St) : Prop := ∀ x, x ∈ l → G x.2.2.2
variable {G : List q_It → Prop}
theorem gG_app {a b : List q_St} : gG G (a ++ b) ↔ gG G a ∧ gG G b := by
  unfold gG
  constructor
  · intro h; exact ⟨fun x hx => h x (List.mem_append.mpr (Or.inl hx)), fun x hx => h x (List.mem_append.mpr (Or.inr hx))⟩
  · intro h x hx
    rcases List.mem_append.mp hx with q | q
    · exact h.1 x q
    · exact h.2 x q
theorem gG_cons {a : q_St} {b : List q_St} : gG G (a :: b) ↔ G a.2.2.2 ∧ gG G b := by
  unfold gG
  constructor
  · intro h; exact ⟨h a (by simp), fun x hx => h x (by simp [hx])⟩
  · intro h x hx
    rcases List.mem_cons.mp hx with q | q
    · rw [q]; exact h.1
    · exact h.2 x q
theorem gG_1 {x : q_St} (h : G x.2.2.2) : gG G [x] := fun y hy => by rw [List.mem_singleton.mp hy]; exact h
variable {X : Nat → Nat → q_PR} {V : Nat}
theorem pS_gen (hnil : G []) (hw : ∀ dp t t' e, X dp t = .ok (t', e) → G e.1) : ∀ (n : Nat) (a : Option q_Sm) (dp lp i as t t' : Nat) (s : q_Sm), pS X K N B V n a dp lp i as t = some (.ok (t', s)) → (∀ a0, a = some a0 → gG G a0.1) → gG G s.1
  | 0, _, _, _, _, _, _, _, _, h, _ => by unfold pS at h; cases h
  | n + 1, some a, dp, lp, i, as, t, t', s, h, g => by
    rw [pS_s] at h
    by_cases c : K t = tmn dp
    · rw [if_pos c] at h; cases h; exact g a rfl
    · rw [if_neg c] at h
      rcases bnS_some h with ⟨x, -, q⟩ | ⟨t1, s1, q1, q2⟩
      · cases q
      · have b := pS_gen hnil hw n none dp lp _ _ t t1 s1 q1 (fun a0 q => by cases q)
        exact pS_gen hnil hw n _ dp lp i as t1 t' s q2 (fun a0 q => by cases q; exact gG_app.mpr ⟨g a rfl, b⟩)
  | n + 1, none, dp, lp, i, as, t, t', s, h, _ => by
    rw [pS_1] at h
    split at h
    · cases h
    · split at h
      · split at h
        · rcases bnX_some h with ⟨x, -, q⟩ | ⟨t1, e, q1, q2⟩
          · cases q
          · split at q2
            · cases q2; exact gG_1 (hw _ _ _ _ q1)
            · cases q2
        · cases h
      · split at h
        · rcases bnX_some h with ⟨x, -, q⟩ | ⟨t1, e, q1, q2⟩
          · cases q
          · split at q2
            · cases q2; exact gG_1 (hw _ _ _ _ q1)
            · cases q2
        · split at h
          · split at h
            · rcases bnX_some h with ⟨x, -, q⟩ | ⟨t1, e, q1, q2⟩
              · cases q
              · split at q2
                · rcases bnS_some q2 with ⟨x, -, q⟩ | ⟨t2, s2, q3, q4⟩
                  · cases q
                  · have b := pS_gen hnil hw n none _ _ _ _ _ _ s2 q3 (fun a0 q => by cases q)
                    split at q4
                    · rcases bnS_some q4 with ⟨x, -, q⟩ | ⟨t3, s3, q5, q6⟩
                      · cases q
                      · have c := pS_gen hnil hw n none _ _ _ _ _ _ s3 q5 (fun a0 q => by cases q)
                        cases q6
                        exact gG_cons.mpr ⟨hw _ _ _ _ q1, gG_app.mpr ⟨b, gG_cons.mpr ⟨hnil, gG_app.mpr ⟨c, gG_1 hnil⟩⟩⟩⟩
                    · cases q4
                      exact gG_cons.mpr ⟨hw _ _ _ _ q1, gG_app.mpr ⟨b, gG_1 hnil⟩⟩
                · cases q2
            · cases h
          · split at h
            · split at h
              · split at h
                · rcases bnX_some h with ⟨x, -, q⟩ | ⟨t1, e, q1, q2⟩
                  · cases q
                  · split at q2
                    · rcases bnS_some q2 with ⟨x, -, q⟩ | ⟨t2, s2, q3, q4⟩
                      · cases q
                      · have b := pS_gen hnil hw n none _ _ _ _ _ _ s2 q3 (fun a0 q => by cases q)
                        cases q4
                        exact gG_cons.mpr ⟨hnil, gG_cons.mpr ⟨hw _ _ _ _ q1, gG_app.mpr ⟨b, gG_1 hnil⟩⟩⟩
                    · cases q2
                · cases h
              · cases h
            · split at h
              · rcases bnS_some h with ⟨x, -, q⟩ | ⟨t2, s2, q3, q4⟩
                · cases q
                · have b := pS_gen hnil hw n _ _ _ _ _ _ _ s2 q3 (fun a0 q => by cases q; exact fun x hx => by cases hx)
                  cases q4; exact b
              · cases h
end AlP
