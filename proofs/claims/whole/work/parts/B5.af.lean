/-! THE CLASS READS STATEMENTS: settings and claims -/
theorem cF_it (K : Nat → Int) (V : Nat) : ∀ (S : List q_Fr) (t : Nat) (st : List q_St) (m w : Nat), itF (cF K V S t st m w).2.2.1 = itF st ∧ t ≤ (cF K V S t st m w).1 ∧ (cF K V S t st m w).2.1.length ≤ S.length
  | [], t, st, m, w => ⟨rfl, Nat.le_refl _, Nat.le_refl _⟩
  | f :: S, t, st, m, w => by
    unfold cF
    by_cases c1 : f.1 = 1
    · rw [if_pos c1]; exact ⟨rfl, Nat.le_refl _, Nat.le_refl _⟩
    · rw [if_neg c1]
      by_cases c2 : f.1 = 2 ∧ K t = 42
      · rw [if_pos c2]
        dsimp only
        rw [itF_G, itF_app]
        exact ⟨List.append_nil _, by omega, Nat.le_refl _⟩
      · rw [if_neg c2]
        by_cases c3 : f.1 = 4
        · rw [if_pos c3]
          obtain ⟨a, b, c⟩ := cF_it K V S t (stG (st ++ [(9, 0, (f.2.1 : Int), [])]) f.2.1 ((st.length + 1 : Nat) : Int)) (f.2.2.1.toNat * (f.2.2.2.1 + (f.2.2.2.2 + m) + 8 * V) + f.2.2.2.1) w
          rw [a, itF_G, itF_app]
          exact ⟨List.append_nil _, b, by simp only [List.length_cons]; omega⟩
        · rw [if_neg c3]
          obtain ⟨a, b, c⟩ := cF_it K V S t (stG (st ++ [(6, 0, 0, [])]) f.2.1 ((st.length : Nat) : Int)) (f.2.2.2.1 + (f.2.2.2.2 + m) + 8 * V) w
          rw [a, itF_G, itF_app]
          exact ⟨List.append_nil _, b, by simp only [List.length_cons]; omega⟩
theorem pX_ne {K : Nat → Int} {N : Nat → q_It} {B : Nat → Bool} : ∀ (n l : Nat) (acc : Option q_Ex) (dp t t' : Nat) (e : q_Ex), pX K N B n l acc dp t = some (.ok (t', e)) → (∀ e0, acc = some e0 → e0.1 ≠ []) → e.1 ≠ []
  | 0, _, _, _, _, _, _, h, _ => by unfold pX at h; cases h
  | n + 1, l, some e0, dp, t, t', e, h, g => by
    unfold pX at h
    split at h
    · rcases bnd_some h with ⟨x, -, q⟩ | ⟨t2, e2, q1, q2⟩
      · cases q
      · exact pX_ne n _ _ _ _ _ _ q2 (fun e1 q => by cases q; unfold eB; simp)
    · cases h; exact g e0 rfl
  | n + 1, l, none, dp, t, t', e, h, _ => by
    unfold pX at h
    split at h
    · rcases bnd_some h with ⟨x, -, q⟩ | ⟨t1, e1, q1, q2⟩
      · cases q
      · have a := pX_ne n _ _ _ _ _ _ q1 (fun e0 q => by cases q)
        split at q2
        · rcases bnd_some q2 with ⟨x, -, q⟩ | ⟨t2, e2, r1, r2⟩
          · cases q
          · split at r2
            · rcases bnd_some r2 with ⟨x, -, q⟩ | ⟨t3, e3, s1, s2⟩
              · cases q
              · cases s2; unfold eC; simp
            · cases r2
        · cases q2; exact a
    · split at h
      · rcases bnd_some h with ⟨x, -, q⟩ | ⟨t1, e1, q1, q2⟩
        · cases q
        · have a := pX_ne n _ _ _ _ _ _ q1 (fun e0 q => by cases q)
          exact pX_ne n _ _ _ _ _ _ q2 (fun e0 q => by cases q; exact a)
      · split at h
        · cases h
        · split at h
          · rcases bnd_some h with ⟨x, -, q⟩ | ⟨t1, e1, q1, q2⟩
            · cases q
            · cases q2; unfold eU; simp
          · split at h
            · rcases bnd_some h with ⟨x, -, q⟩ | ⟨t1, e1, q1, q2⟩
              · cases q
              · have a := pX_ne n _ _ _ _ _ _ q1 (fun e0 q => by cases q)
                split at q2
                · cases q2; exact a
                · cases q2
            · split at h
              · cases h; simp
              · cases h
section AfP
variable {ω : q_W} {d T p h N : Nat} {σ0 σ ρ : q_H}
theorem f_note {K : q_H → Prop} {x1 x2 : Int} (hp : p = 16 ∨ p = 29) (hE : q_E σ) (k1 : z σ p 9 ≠ 0 → K σ) (k2 : z σ p 9 = 0 → K (zs (zs σ p 9 x1) p 10 x2)) : J ω m_Pr_note d 0 0 0 0 0 [(0, .ref p), (1, .int (zI x1)), (2, .int (zI x2))] [] σ (q_kv K) :=
  b_Pr_note_0 hp hE ⟨fun c => ⟨rfl, k1 c⟩, fun c => ⟨rfl, k2 c⟩⟩
theorem nm_PX (hp : p = 16 ∨ p = 29) (hx : PX T p σ0 σ h N) : nmI p σ = nmI p σ0 ∧ nmB p σ = nmB p σ0 ∧ ∀ x, fnd p σ x = fnd p σ0 x := by
  obtain ⟨-, f, -, gp, -⟩ := id hx
  have l : ∀ a, a ∉ SSt p → q_l σ a = q_l σ0 a ∧ z σ a = z σ0 a := fun a h => ⟨(f.2.2.2 a h).2, fr_zF f h⟩
  have e4 := l 4 (by unfold SSt; simp; omega)
  have e6 := l 6 (by unfold SSt; simp; omega)
  have ea := l (p + 2) (by unfold SSt; simp; omega)
  have eb := l (p + 4) (by unfold SSt; simp; omega)
  have ec := l (p + 1) (by unfold SSt; simp; omega)
  have ed := l (p + 3) (by unfold SSt; simp; omega)
  have e0 := gp 0 (by decide) (by decide) (by decide) (by decide) (by decide) (by decide)
  have e44 := gp 4 (by decide) (by decide) (by decide) (by decide) (by decide) (by decide)
  have hf : ∀ x, fnd p σ x = fnd p σ0 x := fun x => by unfold fnd; rw [ea.1, eb.1, e0, e44]
  refine ⟨funext fun t => ?_, funext fun t => ?_, hf⟩
  · unfold nmI
    rw [e4.2, e6.1, hf, ec.2, ed.2]
  · unfold nmB
    rw [e4.2, e6.1, hf]
theorem FB_or {P : Nat → Int} {f : Option (Int × Nat)} {a b a' b' : Int} {k : Int} {x : Nat} (h : FB P f a b) (hk : k ≠ 0) (h1 : a ≠ 0 → a' = a ∧ b' = b) (h2 : a = 0 → a' = k ∧ b' = P x) : FB P (f.or (some (k, x))) a' b' := by
  cases f with
  | none => have := h2 h; exact ⟨this.1, by rw [this.1]; exact hk, this.2⟩
  | some y => obtain ⟨e1, e2, e3⟩ := h; have := h1 e2; exact ⟨this.1.trans e1, by rw [this.1]; exact e2, this.2.trans e3⟩
theorem FB_FA {P : Nat → Int} {f : Option (Int × Nat)} {a b a' b' : Int} {e : q_Ex} (h : FB P f a b) (g : FA a b P e.2.2.2 a' b') : FB P (f.or (xF e)) a' b' := by
  unfold FA at g
  cases f with
  | none =>
    have h0 : a = 0 := h
    rw [if_neg (by rw [h0]; decide)] at g
    unfold xF
    cases he : e.2.2.2 with
    | none => rw [he] at g; exact g.1
    | some x => rw [he] at g; exact ⟨g.1, by rw [g.1]; decide, g.2⟩
  | some y =>
    obtain ⟨e1, e2, e3⟩ := h
    rw [if_pos e2] at g
    exact ⟨g.1.trans e1, by rw [g.1]; exact e2, g.2.trans e3⟩
theorem w_expr {Kk : Int → q_H → Prop} {X : Nat → Nat → q_PR} {its : List q_It} {f : Option (Int × Nat)} {t dp : Nat} (hd : 6 ≤ d) (hp : p = 16 ∨ p = 29) (ks : KS T σ0) (hT : z σ0 4 T = 46) (hx : PX T p σ0 σ h N) (hX : XO X (z σ0 4) (nmI p σ0) (nmB p σ0) T) (ht : z σ 2 8 = (t : Int)) (hi : z σ p 17 = (its.length : Int)) (hit : lsI its (z σ (p + 10)) (z σ (p + 11)) (z σ (p + 12))) (hil : its.length ≤ t) (hdp : dp ≤ 31) (hf : FB (z σ0 5) f (z σ p 9) (z σ p 10))
    (kx : ∀ τ x, X dp t = .error x → PX T p σ0 τ h N → z τ 2 8 = ((x : Nat) : Int) → Kk (-1) τ)
    (k0 : ∀ τ t' e, X dp t = .ok (t', e) → PX T p σ0 τ h N → EX T p σ τ → z τ 2 8 = ((t' : Nat) : Int) → t < t' → t' ≤ T → 1 ≤ z τ p 17 → z τ p 17 = ((its ++ e.1).length : Int) → lsI (its ++ e.1) (z τ (p + 10)) (z τ (p + 11)) (z τ (p + 12)) → (its ++ e.1).length ≤ t' → FB (z σ0 5) (f.or (xF e)) (z τ p 9) (z τ p 10) → Kk ((min e.2.2.1 1501 : Nat) : Int) τ) :
    J ω m_Pa_expression d 0 0 0 0 0 [(0, .ref 8), (1, .int (zI (dp : Int)))] [] σ (q_ki Kk) := by
  have hc := PX_c hx
  obtain ⟨n1, n2, -⟩ := nm_PX hp hx
  obtain ⟨e4, e5⟩ := PX_4 hp hx
  have tT : t ≤ T := by omega
  obtain ⟨n, hn⟩ := hX dp t tT
  have hn1 : pX (z σ 4) (nmI p σ) (nmB p σ) n 0 none dp t = some (X dp t) := by rw [e4, n1, n2]; exact hn n (Nat.le_refl _)
  refine f_expr hd hp hx.1 ht hi hit hil hdp hn1 (fun τ x q hE h2 => kx τ x q (PX_EX hp ks hx hE) h2) (fun τ t' e q hE h2 h17 hl hle hfa => ?_)
  obtain ⟨b1, b2, b3⟩ := XO_ok hT hX tT q
  have ne : 1 ≤ e.1.length := by
    rw [q] at hn1
    exact List.length_pos_iff.mpr (pX_ne n 0 none dp t t' e hn1 (fun e0 q => by cases q))
  rw [e5] at hfa
  exact k0 τ t' e q (PX_EX hp ks hx hE) hE h2 b1 b2 (by rw [h17, List.length_append]; omega) h17 hl hle (FB_FA hf hfa)
theorem AQ_note {P : Nat → Int} {t as w : Nat} {S : List q_Fr} {st : List q_St} {f : Option (Int × Nat)} {k : Int} {x : Nat} (hp : p = 16 ∨ p = 29) (hq : AQ p P (t, S, st, as, w, f) σ) (hk : k ≠ 0) (hkR : inR k) (hxR : inR (P x)) : (z σ p 9 ≠ 0 → AQ p P (t, S, st, as, w, f.or (some (k, x))) σ) ∧ (z σ p 9 = 0 → AQ p P (t, S, st, as, w, f.or (some (k, x))) (zs (zs σ p 9 k) p 10 (P x))) := by
  obtain ⟨a1, a2, a3, ⟨a4, a5⟩, a6, a7, a8⟩ := hq
  dsimp only at a1 a2 a3 a4 a5 a6 a7 a8
  refine ⟨fun c => ⟨a1, a2, a3, ⟨a4, a5⟩, a6, a7, FB_or a8 hk (fun _ => ⟨rfl, rfl⟩) (fun q => absurd q c)⟩, fun c => ?_⟩
  have o : ∀ a, a ≠ p → z (zs (zs σ p 9 k) p 10 (P x)) a = z σ a := fun a h => (z_oF h).trans (z_oF h)
  have s : ∀ j, j ≠ 9 → j ≠ 10 → z (zs (zs σ p 9 k) p 10 (P x)) p j = z σ p j := fun j h g => (z_k g).trans (z_k h)
  unfold AQ
  dsimp only
  rw [o 2 (by omega), o 9 (by omega), o 10 (by omega), o 11 (by omega), o 12 (by omega), o 13 (by omega), o (p + 5) (by omega), o (p + 6) (by omega), o (p + 7) (by omega), o (p + 8) (by omega), o (p + 9) (by omega), o (p + 10) (by omega), o (p + 11) (by omega), o (p + 12) (by omega), s 17 (by decide) (by decide), s 7 (by decide) (by decide), s 8 (by decide) (by decide)]
  refine ⟨a1, a2, a3, ⟨a4, a5⟩, a6, a7, FB_or a8 hk (fun q => absurd c q) (fun _ => ⟨?_, ?_⟩)⟩
  · rw [z_k (by decide), z_s hkR]
  · rw [z_s hxR]
theorem tg_of {t : Nat} (h30 : z σ 4 t = 30) : (fnd p σ (q_l σ 6 t) = -1 → tgF (nmI p σ) (nmB p σ) t = some (2, t) ∧ tgV (nmI p σ) t = 0) ∧ (0 ≤ fnd p σ (q_l σ 6 t) → fnd p σ (q_l σ 6 t) < 12 → tgF (nmI p σ) (nmB p σ) t = some (4, t) ∧ tgV (nmI p σ) t = 0) ∧ (12 ≤ fnd p σ (q_l σ 6 t) → tgF (nmI p σ) (nmB p σ) t = none ∧ tgV (nmI p σ) t = fnd p σ (q_l σ 6 t) - 12) := by
  unfold tgF tgV nmI nmB
  rw [h30, if_neg (show ¬ (30 : Int) = 23 by decide)]
  generalize fnd p σ (q_l σ 6 t) = v
  refine ⟨fun c => ?_, fun c1 c2 => ?_, fun c => ?_⟩
  · rw [if_pos c, if_pos (by simp [c])]
    exact ⟨rfl, rfl⟩
  · rw [if_neg (show ¬ v = -1 by omega), if_pos c2, if_neg (by simp; omega)]
    exact ⟨rfl, rfl⟩
  · rw [if_neg (show ¬ v = -1 by omega), if_neg (show ¬ v < 12 by omega), if_neg (by simp; omega)]
    exact ⟨rfl, rfl⟩
theorem w_target {Kk : Int → q_H → Prop} {t as w : Nat} {S : List q_Fr} {st : List q_St} {f : Option (Int × Nat)} (hd : 1 ≤ d) (hp : p = 16 ∨ p = 29) (hx : PX T p σ0 σ h N) (hq : AQ p (z σ0 5) (t, S, st, as, w, f) σ) (h30 : z σ0 4 t = 30)
    (kk : ∀ τ, PX T p σ0 τ h N → AQ p (z σ0 5) (t, S, st, as, w, f.or (tgF (nmI p σ0) (nmB p σ0) t)) τ → z τ (p + 5) = z σ (p + 5) → 0 ≤ tgV (nmI p σ0) t ∧ tgV (nmI p σ0) t < 12 → Kk (tgV (nmI p σ0) t) τ) : J ω m_Pa_target d 0 0 0 0 0 [(0, .ref 8)] [] σ (q_ki Kk) := by
  obtain ⟨d, rfl⟩ : ∃ k, d = k + 1 := ⟨d - 1, by omega⟩
  have hcc := PX_c hx
  obtain ⟨⟨⟨hE, r0, r1⟩, -, hw, -⟩, -⟩ := id hx
  obtain ⟨n1, n2, n3⟩ := nm_PX hp hx
  obtain ⟨e4, e5⟩ := PX_4 hp hx
  have q1 := hq.1
  dsimp only at q1
  have et : (z σ 2 8).toNat = t := by omega
  have rg := fnd_R (p := p) (σ := σ) (q_l σ 6 t)
  rw [← n1, ← n2] at kk
  obtain ⟨g1, g2, g3⟩ := tg_of (p := p) (σ := σ) (t := t) (by rw [e4]; exact h30)
  refine b_Pa_target_0 hp r0 r1 hE ⟨⟨by omega, by omega⟩, f_find hp hE hw ?_⟩
  rw [et]
  generalize fnd p σ (q_l σ 6 t) = v at *
  refine b_Pa_target_14 hp r0 r1 hE ⟨⟨by omega, by omega⟩, fun c => ⟨fun c2 => ⟨⟨by omega, by omega⟩, _, ⟨by omega, by omega⟩, rfl, ?_⟩, fun c2 => ⟨⟨by omega, by omega⟩, ?_⟩⟩, fun c => ⟨⟨by omega, by omega⟩, ?_⟩⟩
  · obtain ⟨g4, g5⟩ := g3 c2
    rw [g4, g5, Option.or_none] at kk
    rw [show max 0 (v - 12) = v - 12 by omega]
    exact kk σ hx hq rfl ⟨by omega, by omega⟩
  · obtain ⟨g4, g5⟩ := g2 (by omega) c2
    rw [g4, g5] at kk
    have go : ∀ τ, PX T p σ0 τ h N → AQ p (z σ0 5) (t, S, st, as, w, f.or (some (4, t))) τ → z τ (p + 5) = z σ (p + 5) → J ω m_Pa_target (d + 1) 0 0 0 0 59 [(1, .int (zI v))] [] τ (q_ki Kk) := by
      intro τ ht hq2 e5
      obtain ⟨⟨⟨hE2, r02, r12⟩, -⟩, -⟩ := id ht
      refine b_Pa_target_59 hp r02 r12 hE2 ⟨⟨by omega, by omega⟩, _, ⟨by omega, by omega⟩, rfl, ?_⟩
      rw [show max 0 (v - 12) = 0 by omega]
      exact kk τ ht hq2 e5 ⟨by decide, by decide⟩
    rw [et, e5]
    have nn := AQ_note (k := 4) (x := t) hp hq (by decide) ⟨by decide, by decide⟩ (z_R _ _ _)
    exact f_note hp hE (fun c => go σ hx (nn.1 c) rfl) (fun c => go _ (PX_note hp hx) (nn.2 c) (by rw [z_oF (by omega), z_oF (by omega)]))
  · obtain ⟨g4, g5⟩ := g1 c
    rw [g4, g5] at kk
    have go : ∀ τ, PX T p σ0 τ h N → AQ p (z σ0 5) (t, S, st, as, w, f.or (some (2, t))) τ → z τ (p + 5) = z σ (p + 5) → J ω m_Pa_target (d + 1) 0 0 0 0 35 [(1, .int (zI v))] [] τ (q_ki Kk) := by
      intro τ ht hq2 e5
      obtain ⟨⟨⟨hE2, r02, r12⟩, -⟩, -⟩ := id ht
      refine b_Pa_target_35 hp r02 r12 hE2 ⟨⟨by omega, by omega⟩, _, ⟨by omega, by omega⟩, rfl, ?_⟩
      rw [show max 0 (v - 12) = 0 by omega]
      exact kk τ ht hq2 e5 ⟨by decide, by decide⟩
    rw [et, e5]
    have nn := AQ_note (k := 2) (x := t) hp hq (by decide) ⟨by decide, by decide⟩ (z_R _ _ _)
    exact f_note hp hE (fun c => go σ hx (nn.1 c) rfl) (fun c => go _ (PX_note hp hx) (nn.2 c) (by rw [z_oF (by omega), z_oF (by omega)]))
end AfP
