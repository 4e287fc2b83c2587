/-! The class reads an EXPR: follow, expression -/
/-- no more items than TOKENS -/
theorem pX_len {K : Nat → Int} {N : Nat → q_It} {B : Nat → Bool} : ∀ (n l : Nat) (acc : Option q_Ex) (dp t t' : Nat) (e : q_Ex), pX K N B n l acc dp t = some (.ok (t', e)) → (acc = none → e.1.length + t ≤ t') ∧ ∀ e0, acc = some e0 → e.1.length + t ≤ e0.1.length + t'
  | 0, _, _, _, _, _, _, h => by cases h
  | n + 1, l, some e0, dp, t, t', e, h => by
    refine ⟨fun q => (by cases q), fun e1 q => ?_⟩
    cases q
    unfold pX at h
    split at h
    · rcases bnd_some h with ⟨x, -, q⟩ | ⟨t2, e2, q1, q2⟩
      · cases q
      · have a := (pX_len n _ _ _ _ _ _ q1).1 rfl
        have b := (pX_len n _ _ _ _ _ _ q2).2 _ rfl
        have c : (eB (K t) e0 e2).1.length = e0.1.length + e2.1.length + 1 := by unfold eB; simp [Nat.add_assoc]
        omega
    · cases h
      omega
  | n + 1, l, none, dp, t, t', e, h => by
    refine ⟨fun _ => ?_, fun e1 q => by cases q⟩
    unfold pX at h
    split at h
    · rcases bnd_some h with ⟨x, -, q⟩ | ⟨t1, e1, q1, q2⟩
      · cases q
      · have a := (pX_len n _ _ _ _ _ _ q1).1 rfl
        split at q2
        · rcases bnd_some q2 with ⟨x, -, q⟩ | ⟨t2, e2, r1, r2⟩
          · cases q
          · have b := (pX_len n _ _ _ _ _ _ r1).1 rfl
            split at r2
            · rcases bnd_some r2 with ⟨x, -, q⟩ | ⟨t3, e3, s1, s2⟩
              · cases q
              · have c := (pX_len n _ _ _ _ _ _ s1).1 rfl
                cases s2
                have d : (eC e1 e2 e3).1.length = e1.1.length + e2.1.length + e3.1.length + 1 := by unfold eC; simp [Nat.add_assoc]
                omega
            · cases r2
        · cases q2
          exact a
    · split at h
      · rcases bnd_some h with ⟨x, -, q⟩ | ⟨t1, e1, q1, q2⟩
        · cases q
        · have a := (pX_len n _ _ _ _ _ _ q1).1 rfl
          have b := (pX_len n _ _ _ _ _ _ q2).2 _ rfl
          omega
      · split at h
        · cases h
        · split at h
          · rcases bnd_some h with ⟨x, -, q⟩ | ⟨t1, e1, q1, q2⟩
            · cases q
            · have a := (pX_len n _ _ _ _ _ _ q1).1 rfl
              cases q2
              have d : ∀ u, (eU u e1).1.length = e1.1.length + 1 := fun u => by unfold eU; simp
              rw [d]; omega
          · split at h
            · rcases bnd_some h with ⟨x, -, q⟩ | ⟨t1, e1, q1, q2⟩
              · cases q
              · have a := (pX_len n _ _ _ _ _ _ q1).1 rfl
                split at q2
                · cases q2; omega
                · cases q2
            · split at h
              · cases h
                show 1 + t ≤ t + 1; omega
              · cases h
theorem red_D (l : Nat) : ∀ (S : List Int) (r : q_Rd), (red l S r).2.2.1 ≤ r.2.1
  | [], r => Nat.le_refl _
  | s :: S, r => by
    unfold red
    split
    · refine Nat.le_trans (red_D l S _) ?_
      rw [(app_len s _).2]
      split
      · show r.2.1 - 1 ≤ r.2.1; omega
      · exact Nat.le_refl _
    · exact Nat.le_refl _
theorem redC_D : ∀ (S : List Int) (r : q_Rd), (redC S r).2.2.1 ≤ r.2.1
  | [], r => Nat.le_refl _
  | s :: S, r => by
    unfold redC
    split
    · refine Nat.le_trans (redC_D S _) ?_
      show (app 22 r).2.1 - 1 ≤ r.2.1
      rw [(app_len 22 r).2]; omega
    · exact Nat.le_refl _
section FfJ
variable {ω : q_W} {d T p : Nat} {σ0 σ : q_H} {fb wb : Int} {t D k : Nat} {S W : List Int} {its : List q_It} {f : Option Nat}
theorem FX_top {P : Nat → Int} {s x : Int} {r : q_Rd} (hp : p = 16 ∨ p = 29) (h : FX T p P fb wb σ0 (t, s :: S, r, f) σ) (hx : 1 ≤ x ∧ x ≤ 47) : FX T p P fb wb σ0 (t, x :: S, r, f) (zs σ 14 S.length x) := by
  obtain ⟨hX, ⟨a1, a2⟩, ⟨b1, b2⟩, ⟨c1, c2⟩, e1, e2, ⟨g1, g2⟩, j1⟩ := h
  dsimp only at *
  refine ⟨EX_14 hp hX hx, ⟨?_, a2⟩, ⟨?_, ?_⟩, ⟨?_, ?_⟩, ?_, ?_, ⟨?_, ?_⟩, ?_⟩
  · rw [z_o (by decide)]; exact a1
  · rw [z_o (by decide)]; exact b1
  · rw [z_up ⟨by omega, by omega⟩]
    exact ⟨up_s, stk_c b2.2 (fun i hi => up_n (by omega))⟩
  · rw [z_o (by decide)]; exact c1
  · rw [z_oF (by decide)]; exact c2
  · rw [z_o (by decide)]; exact e1
  · rw [z_o (by decide)]; exact e2
  · rw [z_o (by omega)]; exact g1
  · rw [z_oF (by omega), z_oF (by omega), z_oF (by omega)]; exact g2
  · rw [z_o (by omega), z_o (by omega)]; exact j1
theorem f_follow {K : Int → q_H → Prop} {m : Nat} {r : Except Nat q_Mc} {C : q_Mc} (hd : 4 ≤ d) (hp : p = 16 ∨ p = 29) (h : FX T p (z σ0 5) fb wb σ0 C σ) (hI : IVc C) (hD : C.2.2.1.2.1 ≤ 30) (hX : cX (z σ0 4) (nmI p σ0) (nmB p σ0) m false C = some r)
    (k0 : ∀ τ C', r = .ok C' → FX T p (z σ0 5) fb wb σ0 C' τ → C'.2.1 = [] → K 0 τ) (kx : ∀ τ x, r = .error x → EX T p σ0 τ → z τ 2 8 = ((x : Nat) : Int) → z τ 8 10 ≠ 0 → K 0 τ)
    (k1 : ∀ τ C' m', FX T p (z σ0 5) fb wb σ0 C' τ → IVc C' → C.1 < C'.1 → cX (z σ0 4) (nmI p σ0) (nmB p σ0) m' true C' = some r → K 1 τ) : J ω m_Pa_follow d 0 0 0 0 0 [(0, .ref 8)] [] σ (q_ki K) := by
  obtain ⟨d, rfl⟩ : ∃ k, d = k + 1 := ⟨d - 1, by omega⟩
  have l : ∀ (m i : Nat) (ρ : q_H) (t' : Nat) (S : List Int) (q : q_Rd) (f : Option Nat), C.1 + i ≤ t' → FX T p (z σ0 5) fb wb σ0 (t', S, q, f) ρ → IVc (t', S, q, f) → q.2.1 ≤ 30 → cX (z σ0 4) (nmI p σ0) (nmB p σ0) m false (t', S, q, f) = some r → J ω m_Pa_follow (d + 1) 0 0 0 0 2 [(0, .ref 8), (1, .int (zI (i : Int)))] [] ρ (q_ki K) := by
    intro m
    induction m with
    | zero => intro i ρ t' S q f _ _ _ _ hX; cases hX
    | succ m ih =>
      intro i ρ t' S q f hit h hI hD hX
      obtain ⟨⟨hE, r0, r1⟩, fr0, kt, -⟩ := id h.1
      obtain ⟨i1, i2, i3⟩ := id hI
      dsimp only at i1 i2 i3
      have e2 : z ρ 2 8 = (t' : Int) := h.2.1.1
      have tT : t' ≤ T := h.2.1.2
      have T4 := kt.1
      have e4 : z ρ 4 = z σ0 4 := fr_zF fr0 (by simp; omega)
      have hc := EX_c h.1
      have hk := EX_k h.1
      rw [e2, Int.toNat_natCast, e4] at hk
      unfold cX at hX
      -- behind what waits with a strength of 1
      have g51 : ¬ (1 ≤ z σ0 4 t' ∧ z σ0 4 t' ≤ 18) → J ω m_Pa_follow (d + 1) 0 0 0 0 51 [(0, .ref 8), (1, .int (zI (i : Int))), (2, .int (zI (z σ0 4 t')))] [] ρ (q_ki K) := fun cn => by
        rw [if_neg cn] at hX
        have R1 : inR (z σ0 4 t') := ⟨by omega, by omega⟩
        have rl := red_len 1 S q
        have rd := red_dpt 1 S q i1
        have rD := red_D 1 S q
        refine b_Pa_follow_51 hp r0 r1 hE (f_reduce (l := 1) (by omega) hp (by decide) S q ρ h i1 (by omega) (by omega) (fun τ hτ => ?_))
        generalize red 1 S q = u at hX hτ rl rd rD
        obtain ⟨S1, q1⟩ := u
        dsimp only at hτ rl rd rD hX
        refine b_Pa_follow_56 hp hτ.1.1.2.1 hτ.1.1.2.2 hτ.1.1.1 ⟨R1, fun c34 => ?_, fun c34 => ?_⟩
        · rw [if_neg c34] at hX
          have sl := redC_len S1 q1
          have sd := redC_dpt S1 q1 rd
          have sD := redC_D S1 q1
          refine f_redC (by omega) hp S1 q1 τ hτ rd (by omega) (by omega) (fun μ hμ => ?_)
          generalize redC S1 q1 = u at hX hμ sl sd sD
          obtain ⟨S2, q2⟩ := u
          dsimp only at hμ sl sd sD hX
          have e2μ : z μ 2 8 = (t' : Int) := hμ.2.1.1
          -- none of the two
          have g111 : ¬ (z σ0 4 t' = 33 ∧ S2.head? = some 34) → J ω m_Pa_follow (d + 1) 0 0 0 0 111 [(0, .ref 8), (1, .int (zI (i : Int))), (2, .int (zI (z σ0 4 t')))] [] μ (q_ki K) := fun c33 => by
            rw [if_neg c33] at hX
            have out : ¬ (z σ0 4 t' = 36 ∧ S2.head? = some 35) → q_ki K (.inl (some (.int (zI 0)))) μ := fun c36 => by
              rw [if_neg c36] at hX
              refine ⟨0, ⟨by decide, by decide⟩, rfl, ?_⟩
              by_cases cS : S2 = []
              · rw [if_pos cS] at hX
                refine k0 μ _ (Option.some.inj hX).symm ?_ rfl
                rw [cS] at hμ; exact hμ
              · rw [if_neg cS] at hX
                refine kx μ t' (Option.some.inj hX).symm hμ.1 e2μ ?_
                have b1 : z μ 8 10 = (S2.length : Int) := hμ.2.2.1.1
                rw [b1]
                cases S2 with
                | nil => exact absurd rfl cS
                | cons a b => simp; omega
            refine b_Pa_follow_111 hp hμ.1.1.2.1 hμ.1.1.2.2 hμ.1.1.1 ⟨R1, fun c => out (fun q => c q.1), fun c => f_topSign hp hμ (b_Pa_follow_121 hp hμ.1.1.2.1 hμ.1.1.2.2 hμ.1.1.1 ?_)⟩
            cases S2 with
            | nil => exact ⟨⟨by decide, by decide⟩, fun q => absurd q (by decide), fun _ => out (fun q => by simp at q)⟩
            | cons s S2 =>
              rw [List.headD_cons]
              have h47 := FX_47 hμ
              refine ⟨⟨by omega, by omega⟩, fun c35 => ?_, fun c35 => out (fun q => c35 (by simpa using q.2))⟩
              subst c35
              rw [if_pos ⟨c, rfl⟩] at hX
              have sd : (if 19 ≤ (35 : Int) then 1 else 0) + dpt S2 ≤ q2.2.1 := sd
              rw [if_pos (by decide)] at sd
              rw [List.length_cons] at sl
              have hpop := FX_pop hp hμ
              have u13 : z μ 8 13 = (q2.2.1 : Int) := hμ.2.2.2.2.1
              have F := FX_13 (e := q2.2.1 - 1) hp hpop ⟨by omega, by omega⟩
              rw [u13, show (q2.2.1 : Int) - 1 = ((q2.2.1 - 1 : Nat) : Int) by omega]
              have tl : t' < T := by have := hk.2.2.1 (by omega); omega
              refine f_adv hp F tl (fun ν hν => b_Pa_follow_155 hp hν.1.1.2.1 hν.1.1.2.2 hν.1.1.1 ?_)
              rw [show (i : Int) + 1 = ((i + 1 : Nat) : Int) by omega]
              refine ih (i + 1) ν (t' + 1) S2 _ f (by omega) hν ⟨?_, ?_, ?_⟩ ?_ hX
              · dsimp only; omega
              · dsimp only; omega
              · dsimp only; omega
              · dsimp only; omega
          refine b_Pa_follow_74 hp hμ.1.1.2.1 hμ.1.1.2.2 hμ.1.1.1 ⟨R1, fun c => g111 (fun q => c q.1), fun c => f_topSign hp hμ (b_Pa_follow_84 hp hμ.1.1.2.1 hμ.1.1.2.2 hμ.1.1.1 ?_)⟩
          cases S2 with
          | nil => exact ⟨⟨by decide, by decide⟩, fun _ => g111 (fun q => by simp at q), fun q => absurd q (by decide)⟩
          | cons s S2 =>
            rw [List.headD_cons]
            have h47 := FX_47 hμ
            have b1 : z μ 8 10 = ((S2.length + 1 : Nat) : Int) := hμ.2.2.1.1
            have b4 := hμ.1.2.2.2.2.2.2.2.2.1.2.1
            refine ⟨⟨by omega, by omega⟩, fun c34 => g111 (fun q => c34 (by simpa using q.2)), fun c34 => ⟨⟨by omega, by omega⟩, ?_⟩⟩
            subst c34
            rw [if_pos ⟨c, rfl⟩] at hX
            rw [b1, show (((S2.length + 1 : Nat) : Int) - 1).toNat = S2.length by omega]
            have tl : t' < T := by have := hk.2.2.1 (by omega); omega
            have sd : (if 19 ≤ (34 : Int) then 1 else 0) + dpt S2 ≤ q2.2.1 := sd
            rw [List.length_cons] at sl
            refine f_adv hp (FX_top (x := 33) hp hμ ⟨by decide, by decide⟩) tl (fun ν hν => b_Pa_follow_109 hp hν.1.1.2.1 hν.1.1.2.2 hν.1.1.1 ⟨1, ⟨by decide, by decide⟩, rfl, k1 ν _ m hν ⟨?_, ?_, ?_⟩ (by dsimp only; omega) hX⟩)
            · exact sd
            · dsimp only; omega
            · dsimp only; rw [List.length_cons]; omega
        · rw [if_pos c34] at hX
          by_cases c4 : S1.length < 400
          · rw [if_pos c4] at hX
            have tl : t' < T := by have := hk.2.2.1 (by omega); omega
            obtain ⟨W1, D1, k1', its1⟩ := q1
            dsimp only at rl rd rD
            refine f_deepen (by omega) hp hτ c4 ⟨by decide, by decide⟩ tl (by omega) (fun ν hν => b_Pa_follow_68 hp hν.1.1.2.1 hν.1.1.2.2 hν.1.1.1 ⟨1, ⟨by decide, by decide⟩, rfl, k1 ν _ m hν ⟨?_, ?_, ?_⟩ (by dsimp only; omega) hX⟩)
            · show (if 19 ≤ (34 : Int) then 1 else 0) + dpt S1 ≤ D1 + 1
              rw [if_pos (by decide)]; omega
            · dsimp only; omega
            · dsimp only; rw [List.length_cons]; omega
          · rw [if_neg c4] at hX; cases hX
      refine b_Pa_follow_2 hp r0 r1 hE ?_
      rw [e2, Int.toNat_natCast, e4]
      refine ⟨⟨by omega, by omega⟩, fun c => absurd c (by omega), fun _ => ⟨by rw [← e2]; exact hc, fun c => g51 (by omega), fun c => ⟨fun c2 => g51 (by omega), fun c2 => ⟨⟨by omega, by omega⟩, ?_⟩⟩⟩⟩
      have hb : 1 ≤ z σ0 4 t' ∧ z σ0 4 t' ≤ 18 := ⟨by omega, c2⟩
      rw [tS ⟨hb.1, by omega⟩, stg_b hb]
      rw [if_pos hb] at hX
      have sb := sgL_le (z σ0 4 t')
      have rl := red_len (sgL (z σ0 4 t')) S q
      have rd := red_dpt (sgL (z σ0 4 t')) S q i1
      have rD := red_D (sgL (z σ0 4 t')) S q
      refine f_reduce (by omega) hp (by omega) S q ρ h i1 (by omega) (by omega) (fun τ hτ => b_Pa_follow_37 hp hτ.1.1.2.1 hτ.1.1.2.2 hτ.1.1.1 ?_)
      generalize red (sgL (z σ0 4 t')) S q = u at hX hτ rl rd rD
      obtain ⟨S1, q1⟩ := u
      dsimp only at hτ rl rd rD hX
      by_cases c4 : S1.length < 400
      · rw [if_pos c4] at hX
        have tl : t' < T := by have := hk.2.2.1 (by omega); omega
        refine f_pushSign hp hτ c4 ⟨hb.1, by omega⟩ (fun μ hμ => b_Pa_follow_42 hp hμ.1.1.2.1 hμ.1.1.2.2 hμ.1.1.1 (f_adv hp hμ tl (fun ν hν => b_Pa_follow_49 hp hν.1.1.2.1 hν.1.1.2.2 hν.1.1.1 ⟨1, ⟨by decide, by decide⟩, rfl, k1 ν _ m hν ⟨?_, ?_, ?_⟩ (by dsimp only; omega) hX⟩)))
        · show (if 19 ≤ z σ0 4 t' then 1 else 0) + dpt S1 ≤ q1.2.1
          rw [if_neg (by omega)]; omega
        · dsimp only; omega
        · dsimp only; rw [List.length_cons]; omega
      · rw [if_neg c4] at hX; cases hX
  obtain ⟨t0, S0, q0, f0⟩ := C
  exact b_Pa_follow_0 hp h.1.1.2.1 h.1.1.2.2 h.1.1.1 (l m 0 σ t0 S0 q0 f0 (by dsimp only; omega) h hI hD hX)
theorem f_machine {K : Int → q_H → Prop} {r : Except Nat q_Mc} (hd : 5 ≤ d) (hp : p = 16 ∨ p = 29) (t0 : Nat)
    (k0 : ∀ τ C', r = .ok C' → FX T p (z σ0 5) fb wb σ0 C' τ → C'.2.1 = [] → K ((min C'.2.2.1.2.2.1 1501 : Nat) : Int) τ) (kx : ∀ τ x, r = .error x → EX T p σ0 τ → z τ 2 8 = ((x : Nat) : Int) → K (-1) τ) :
    ∀ (n i m : Nat) (C : q_Mc) (σ : q_H), T + 1 ≤ n + C.1 → FX T p (z σ0 5) fb wb σ0 C σ → IVc C → C.2.2.1.2.1 ≤ 30 → t0 + i + 1 ≤ C.1 → cX (z σ0 4) (nmI p σ0) (nmB p σ0) m false C = some r → J ω m_Pa_expression d 0 0 0 0 27 [(0, .ref 8), (2, .int (zI 1)), (3, .int (zI (i : Int)))] [] σ (q_ki K) := by
  obtain ⟨d, rfl⟩ : ∃ k, d = k + 1 := ⟨d - 1, by omega⟩
  intro n
  induction n with
  | zero =>
    intro i m C σ hn h
    have := h.2.1.2
    omega
  | succ n ih =>
    intro i m C σ hn h hI hD hi hX
    have tT := h.2.1.2
    have T4 := h.1.2.2.1.1
    have bad : ∀ (x2 : Int) (τ : q_H) (x : Nat), (x2 = 0 ∨ (x2 = 1 ∧ z τ 8 10 ≠ 0)) → r = .error x → EX T p σ0 τ → z τ 2 8 = (x : Int) → J ω m_Pa_expression (d + 1) 0 0 0 0 56 [(0, .ref 8), (2, .int (zI x2))] [] τ (q_ki K) := fun x2 τ x q1 q2 q3 q4 => by
      have e : q_ki K (.inl (some (.int (zI (-1))))) τ := ⟨-1, ⟨by decide, by decide⟩, rfl, kx τ x q2 q3 q4⟩
      exact b_Pa_expression_56 hp q3.1.2.1 q3.1.2.2 q3.1.1 ⟨by rcases q1 with q | q <;> exact ⟨by omega, by omega⟩, fun _ => e, fun c => ⟨fun _ => e, fun c2 => q1.elim (fun q => absurd q c) (fun q => absurd c2 q.2)⟩⟩
    refine b_Pa_expression_27 hp h.1.1.2.1 h.1.1.2.2 h.1.1.1 ⟨⟨by omega, by omega⟩, fun c => absurd c (by omega), fun _ => ⟨⟨by decide, by decide⟩, fun c => absurd c (by decide), fun _ => ?_⟩⟩
    refine f_follow (by omega) hp h hI hD hX (fun τ C' e1 e2 e3 => ?_) (fun τ x e1 e2 e3 e4 => ?_) (fun τ C' m' e1 e2 e3 e4 => ?_)
    · refine b_Pa_expression_42 hp e2.1.1.2.1 e2.1.1.2.2 e2.1.1.1 ⟨⟨by decide, by decide⟩, fun _ => ?_, fun c => absurd rfl c⟩
      have b1 : z τ 8 10 = (C'.2.1.length : Int) := e2.2.2.1.1
      rw [e3] at b1
      refine b_Pa_expression_56 hp e2.1.1.2.1 e2.1.1.2.2 e2.1.1.1 ⟨⟨by decide, by decide⟩, fun c => absurd c (by decide), fun _ => ⟨fun c => absurd b1 c, fun _ => ?_⟩⟩
      have b2 : z τ 8 14 = ((min C'.2.2.1.2.2.1 1501 : Nat) : Int) := e2.2.2.2.2.2.1
      rw [b2]
      exact ⟨_, ⟨by omega, by omega⟩, rfl, k0 τ C' e1 e2 e3⟩
    · exact b_Pa_expression_42 hp e2.1.2.1 e2.1.2.2 e2.1.1 ⟨⟨by decide, by decide⟩, fun _ => bad 1 τ x (Or.inr ⟨rfl, e4⟩) e1 e2 e3, fun c => absurd rfl c⟩
    · refine b_Pa_expression_42 hp e1.1.1.2.1 e1.1.1.2.2 e1.1.1.1 ⟨⟨by decide, by decide⟩, fun c => absurd c (by decide), fun _ => ?_⟩
      obtain ⟨t1, S1, ⟨W1, D1, k1', its1⟩, f1⟩ := C'
      refine f_operand (by omega) hp e1 e2 e4 (fun μ x g1 g2 g3 => ?_) (fun μ C2 m2 g1 g2 g3 g4 g5 => ?_)
      · refine b_Pa_expression_49 hp g2.1.2.1 g2.1.2.2 g2.1.1 (b_Pa_expression_27 hp g2.1.2.1 g2.1.2.2 g2.1.1 ⟨⟨by omega, by omega⟩, fun _ => bad 0 μ x (Or.inl rfl) g1 g2 g3, fun _ => ⟨⟨by decide, by decide⟩, fun _ => bad 0 μ x (Or.inl rfl) g1 g2 g3, fun c => absurd rfl c⟩⟩)
      · refine b_Pa_expression_49 hp g1.1.1.2.1 g1.1.1.2.2 g1.1.1.1 ?_
        rw [show (i : Int) + 1 = ((i + 1 : Nat) : Int) by omega]
        dsimp only at e3 g4
        exact ih (i + 1) m2 C2 μ (by omega) g1 g2 g3 (by omega) g5
/-- THE CLASS READS AN EXPR as recursive descent does -/
theorem f_expr {K : Int → q_H → Prop} {n dp : Nat} {r : q_PR} (hd : 6 ≤ d) (hp : p = 16 ∨ p = 29) (hB : BX T p σ) (ht : z σ 2 8 = (t : Int)) (hi : z σ p 17 = (its.length : Int)) (hit : lsI its (z σ (p + 10)) (z σ (p + 11)) (z σ (p + 12))) (hil : its.length ≤ t) (hdp : dp ≤ 31)
    (hX : pX (z σ 4) (nmI p σ) (nmB p σ) n 0 none dp t = some r)
    (kx : ∀ τ x, r = .error x → EX T p σ τ → z τ 2 8 = ((x : Nat) : Int) → K (-1) τ)
    (k0 : ∀ τ t' e, r = .ok (t', e) → EX T p σ τ → z τ 2 8 = ((t' : Nat) : Int) → z τ p 17 = ((its ++ e.1).length : Int) → lsI (its ++ e.1) (z τ (p + 10)) (z τ (p + 11)) (z τ (p + 12)) → (its ++ e.1).length ≤ t' → FA (z σ p 9) (z σ p 10) (z σ 5) e.2.2.2 (z τ p 9) (z τ p 10) → K ((min e.2.2.1 1501 : Nat) : Int) τ) :
    J ω m_Pa_expression d 0 0 0 0 0 [(0, .ref 8), (1, .int (zI (dp : Int)))] [] σ (q_ki K) := by
  obtain ⟨d, rfl⟩ : ∃ k, d = k + 1 := ⟨d - 1, by omega⟩
  obtain ⟨⟨hE, r0, r1⟩, kt, -, ⟨c1, c2⟩, -⟩ := id hB
  have hx0 := EX_0 (x1 := (dp : Int)) hp hB
  have F : FX T p (z σ 5) (z σ p 9) (z σ p 10) σ (t, [], ([], dp, 0, its), none) (zs (zs (zs (zs σ 8 13 (dp : Int)) 8 10 0) 8 12 0) 8 14 0) := by
    refine ⟨hx0, ⟨?_, by dsimp only; omega⟩, ⟨?_, trivial⟩, ⟨?_, trivial⟩, ?_, ?_, ⟨?_, ?_⟩, ?_⟩
    · rw [z_o (by decide), z_o (by decide), z_o (by decide), z_o (by decide)]; exact ht
    · rw [z_k (by decide), z_k (by decide), z_s ⟨by decide, by decide⟩]; rfl
    · rw [z_k (by decide), z_s ⟨by decide, by decide⟩]; rfl
    · rw [z_k (by decide), z_k (by decide), z_k (by decide), z_s ⟨by omega, by omega⟩]
    · rw [z_s ⟨by decide, by decide⟩]; rfl
    · rw [z_o (by omega), z_o (by omega), z_o (by omega), z_o (by omega)]; exact hi
    · rw [z_oF (by omega), z_oF (by omega), z_oF (by omega), z_oF (by omega), z_oF (by omega), z_oF (by omega), z_oF (by omega), z_oF (by omega), z_oF (by omega), z_oF (by omega), z_oF (by omega), z_oF (by omega)]; exact hit
    · rw [z_o (by omega), z_o (by omega), z_o (by omega), z_o (by omega), z_o (by omega), z_o (by omega), z_o (by omega), z_o (by omega)]
      unfold FA
      dsimp only
      split
      · exact ⟨rfl, rfl⟩
      · next q => exact ⟨Classical.not_not.mp q, rfl⟩
  have I0 : IVc (t, [], ([], dp, 0, its), none) := ⟨Nat.zero_le _, hdp, by dsimp only; simp; omega⟩
  have S0 := SIM n 0 none dp t r (by omega) (fun q => absurd rfl q) hX [] [] 0 its none (fun _ s q => by cases q) (by unfold bS; simp; omega) (by unfold bW; simp; omega)
  -- with what the machine answers
  have run : ∀ (m : Nat) (r2 : Except Nat q_Mc), cX (z σ 4) (nmI p σ) (nmB p σ) m true (t, [], ([], dp, 0, its), none) = some r2 → (∀ τ C', r2 = .ok C' → FX T p (z σ 5) (z σ p 9) (z σ p 10) σ C' τ → C'.2.1 = [] → K ((min C'.2.2.1.2.2.1 1501 : Nat) : Int) τ) → (∀ τ x, r2 = .error x → EX T p σ τ → z τ 2 8 = ((x : Nat) : Int) → K (-1) τ) → J ω m_Pa_expression (d + 1) 0 0 0 0 0 [(0, .ref 8), (1, .int (zI (dp : Int)))] [] σ (q_ki K) := fun m r2 hm j0 jx => by
    refine b_Pa_expression_0 hp r0 r1 hE (f_operand (by omega) hp F I0 hm (fun μ x g1 g2 g3 => ?_) (fun μ C2 m2 g1 g2 g3 g4 g5 => ?_))
    · have e : q_ki K (.inl (some (.int (zI (-1))))) μ := ⟨-1, ⟨by decide, by decide⟩, rfl, jx μ x g1 g2 g3⟩
      have b : J ω m_Pa_expression (d + 1) 0 0 0 0 56 [(0, .ref 8), (2, .int (zI 0))] [] μ (q_ki K) := b_Pa_expression_56 hp g2.1.2.1 g2.1.2.2 g2.1.1 ⟨⟨by decide, by decide⟩, fun _ => e, fun c => absurd rfl c⟩
      exact b_Pa_expression_24 hp g2.1.2.1 g2.1.2.2 g2.1.1 (b_Pa_expression_27 hp g2.1.2.1 g2.1.2.2 g2.1.1 ⟨⟨by decide, by decide⟩, fun _ => b, fun _ => ⟨⟨by decide, by decide⟩, fun _ => b, fun c => absurd rfl c⟩⟩)
    · exact b_Pa_expression_24 hp g1.1.1.2.1 g1.1.1.2.2 g1.1.1.1 (f_machine (by omega) hp t j0 jx (T + 1) 0 m2 C2 μ (by omega) g1 g2 g3 (by omega) g5)
  cases r with
  | error x =>
    obtain ⟨m, hm⟩ := S0.2 x rfl
    exact run m _ hm (fun τ C' q => by cases q) (fun τ y q g1 g2 => by cases q; exact kx τ x rfl g1 g2)
  | ok te =>
    obtain ⟨t', e⟩ := te
    have nx := pX_next n 0 none dp t t' e (by omega) (fun q => absurd rfl q) hX
    obtain ⟨n1, n2⟩ := nx.2.1 rfl
    have fin : cX (z σ 4) (nmI p σ) (nmB p σ) 1 false (cln t' [] [] dp 0 its none e) = some (.ok (t', [], ([e.2.1], dp, 0 + e.2.2.1, its ++ e.1), e.2.2.2)) := by
      unfold cln
      conv => lhs; unfold cX
      rw [if_neg (sgL_0.mp n1), if_neg n2]
      simp only [red, redC]
      rw [if_neg (fun q => by have := q.2; simp at this), if_neg (fun q => by have := q.2; simp at this), if_pos trivial]
      rfl
    obtain ⟨m, hm⟩ := S0.1 t' e rfl 1 _ fin
    refine run m _ hm (fun τ C' q g1 g2 => ?_) (fun τ y q => by cases q)
    cases q
    obtain ⟨hx, ⟨a1, a2⟩, ⟨b1, b2⟩, ⟨c1, c2⟩, e1, e2, ⟨g1, g2'⟩, j1⟩ := g1
    have hl : (its ++ e.1).length ≤ t' := by
      have := (pX_len n 0 none dp t t' e hX).1 rfl
      rw [List.length_append]; omega
    dsimp only at *
    rw [Nat.zero_add]
    exact k0 τ t' e rfl hx a1 g1 g2' hl j1
end FfJ
