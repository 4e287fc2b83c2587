/-! The class reads an EXPR: operand, follow, expression -/
theorem fnd_fr {T p : Nat} {σ0 σ : q_H} {x : Int64} (hp : p = 16 ∨ p = 29) (h : EX T p σ0 σ) : fnd p σ x = fnd p σ0 x := by
  obtain ⟨-, f, -, -, -, -, g, -⟩ := h
  unfold fnd
  rw [g 0 (by decide) (by decide) (by decide), g 4 (by decide) (by decide) (by decide), show q_l σ (p + 2) = q_l σ0 (p + 2) from (f.2.2.2 _ (by simp; omega)).2, show q_l σ (p + 4) = q_l σ0 (p + 4) from (f.2.2.2 _ (by simp; omega)).2]
theorem fnd_R {p : Nat} {σ : q_H} (x : Int64) : fnd p σ x = -1 ∨ (0 ≤ fnd p σ x ∧ fnd p σ x < 12 ∧ fnd p σ x < ((z σ p 0).toNat : Int)) ∨ (12 ≤ fnd p σ x ∧ fnd p σ x < 24 ∧ fnd p σ x - 12 < ((z σ p 4).toNat : Int)) := by
  unfold fnd
  have a := fnV_R (x := x) (g := q_l σ (p + 2)) (n := (z σ p 0).toNat) 12 0
  have b := fnV_R (x := x) (g := q_l σ (p + 4)) (n := (z σ p 4).toNat) 12 0
  generalize fnV x (q_l σ (p + 2)) (z σ p 0).toNat 12 0 = u at a ⊢
  generalize fnV x (q_l σ (p + 4)) (z σ p 4).toNat 12 0 = v at b ⊢
  split
  · omega
  · split
    · omega
    · exact Or.inl rfl
section FeJ
variable {ω : q_W} {d T p : Nat} {σ0 σ : q_H} {fb wb : Int} {t D k : Nat} {S W : List Int} {its : List q_It} {f : Option Nat}
/-- what the machine keeps -/
def IVc (C : q_Mc) : Prop := dpt C.2.1 ≤ C.2.2.1.2.1 ∧ C.2.2.1.2.1 ≤ 31 ∧ C.2.2.1.2.2.2.length + C.2.1.length ≤ C.1
theorem f_named {K : q_H → Prop} (hd : 1 ≤ d) (hp : p = 16 ∨ p = 29) (h : FX T p (z σ0 5) fb wb σ0 (t, S, (W, D, k, its), f) σ) (hW : W.length < 400) (hi : its.length < 4096) (h30 : z σ0 4 t = 30) (kk : ∀ τ, FX T p (z σ0 5) fb wb σ0 (t, S, ((nmI p σ0 t).2.2 :: W, D, k, its ++ [nmI p σ0 t]), orF f (if nmB p σ0 t then none else some t)) τ → K τ) : J ω m_Pa_named d 0 0 0 0 0 [(0, .ref 8)] [] σ (q_kv K) := by
  obtain ⟨d, rfl⟩ : ∃ k, d = k + 1 := ⟨d - 1, by omega⟩
  obtain ⟨⟨hE, r0, r1⟩, fr0, -, hw, -, -, gk, -⟩ := id h.1
  obtain ⟨w1, w2, w3, w4⟩ := id hw
  have e2 : z σ 2 8 = (t : Int) := h.2.1.1
  have hc := EX_c h.1
  have e6 : q_l σ 6 = q_l σ0 6 := (fr0.2.2.2 6 (by simp; omega)).2
  have e5 : z σ 5 = z σ0 5 := fr_zF fr0 (by simp; omega)
  have p1 : z σ (p + 1) = z σ0 (p + 1) := fr_zF fr0 (by simp; omega)
  have p3 : z σ (p + 3) = z σ0 (p + 3) := fr_zF fr0 (by simp; omega)
  have ef := fnd_fr (x := q_l σ0 6 t) hp h.1
  have hv := fnd_R (p := p) (σ := σ) (q_l σ0 6 t)
  rw [ef] at hv
  have nI0 : nmI p σ0 t = (if fnd p σ0 (q_l σ0 6 t) = -1 then (23, 0, 1) else if fnd p σ0 (q_l σ0 6 t) < 12 then (24, fnd p σ0 (q_l σ0 6 t), z σ0 (p + 1) (fnd p σ0 (q_l σ0 6 t)).toNat) else (25, fnd p σ0 (q_l σ0 6 t) - 12, z σ0 (p + 3) (fnd p σ0 (q_l σ0 6 t) - 12).toNat)) := by
    unfold nmI; rw [if_neg (by rw [h30]; decide)]
  have nB0 : nmB p σ0 t = decide (fnd p σ0 (q_l σ0 6 t) ≠ -1) := by
    unfold nmB; rw [h30]; simp
  refine b_Pa_named_0 hp r0 r1 hE ⟨hc, ?_⟩
  rw [e2, Int.toNat_natCast, e6]
  refine f_find hp hE hw ?_
  rw [ef]
  generalize fnd p σ0 (q_l σ0 6 t) = v at hv nI0 nB0 ⊢
  refine b_Pa_named_14 hp r0 r1 hE ⟨⟨by omega, by omega⟩, fun c => ?_, fun c => ?_⟩
  · rw [if_neg c] at nI0
    have nB1 : nmB p σ0 t = true := by rw [nB0]; simpa using c
    rw [nB1] at kk
    rw [if_pos rfl, orF_n] at kk
    refine ⟨fun c2 => ?_, fun c2 => ?_⟩
    · rw [if_neg (by omega)] at nI0
      rw [nI0] at kk
      have := w4 (v - 12).toNat (by omega)
      refine ⟨⟨by omega, by omega⟩, f_push hp h hW hi ⟨by decide, by decide⟩ (fun _ => ⟨by omega, by omega⟩) this ⟨by omega, by omega⟩ (Or.inr (by decide)) (fun τ hτ => b_Pa_named_93 hp hτ.1.1.2.1 hτ.1.1.2.2 hτ.1.1.1 ⟨rfl, kk τ ?_⟩)⟩
      rw [p3] at hτ; exact hτ
    · rw [if_pos (by omega)] at nI0
      rw [nI0] at kk
      have := w3 v.toNat (by omega)
      refine ⟨⟨by omega, by omega⟩, f_push hp h hW hi ⟨by decide, by decide⟩ (fun _ => ⟨by omega, by omega⟩) this ⟨by omega, by omega⟩ (Or.inr (by decide)) (fun τ hτ => b_Pa_named_68 hp hτ.1.1.2.1 hτ.1.1.2.2 hτ.1.1.1 ⟨rfl, kk τ ?_⟩)⟩
      rw [p1] at hτ; exact hτ
  · rw [if_pos c] at nI0
    have nB1 : nmB p σ0 t = false := by rw [nB0]; simpa using c
    rw [nB1, nI0] at kk
    rw [if_neg (by simp)] at kk
    have go : ∀ ρ, FX T p (z σ0 5) fb wb σ0 (t, S, (W, D, k, its), orF f (some t)) ρ → J ω m_Pa_named (d + 1) 0 0 0 0 35 [(0, .ref 8)] [] ρ (q_kv K) := fun ρ hρ =>
      b_Pa_named_35 hp hρ.1.1.2.1 hρ.1.1.2.2 hρ.1.1.1 (f_push hp hρ hW hi ⟨by decide, by decide⟩ (fun q => absurd q (by decide)) ⟨by decide, by decide⟩ ⟨by decide, by decide⟩ (Or.inr (by decide)) (fun τ hτ => b_Pa_named_43 hp hτ.1.1.2.1 hτ.1.1.2.2 hτ.1.1.1 ⟨rfl, kk τ hτ⟩))
    refine ⟨hc, ?_⟩
    rw [e2, Int.toNat_natCast, e5]
    obtain ⟨hx, ⟨a1, a2⟩, ⟨b1, b2⟩, ⟨c1, c2⟩, e1', e2', ⟨g1, g2⟩, j1⟩ := h
    dsimp only at a1 a2 b1 b2 c1 c2 e1' e2' g1 g2 j1
    refine b_Pr_note_0 hp hE ⟨fun q => ⟨rfl, go σ ⟨hx, ⟨a1, a2⟩, ⟨b1, b2⟩, ⟨c1, c2⟩, e1', e2', ⟨g1, g2⟩, ?_⟩⟩, fun q => ⟨rfl, go _ ⟨EX_note hp hx, ⟨?_, a2⟩, ⟨?_, ?_⟩, ⟨?_, ?_⟩, ?_, ?_, ⟨?_, ?_⟩, ?_⟩⟩⟩
    · dsimp only
      unfold FA at j1 ⊢
      by_cases q2 : fb ≠ 0
      · rw [if_pos q2] at j1 ⊢; exact j1
      · rw [if_neg q2] at j1 ⊢
        cases f with
        | none => exact absurd j1.1 q
        | some x => exact j1
    · rw [z_o (by omega), z_o (by omega)]; exact a1
    · rw [z_o (by omega), z_o (by omega)]; exact b1
    · rw [z_oF (by omega), z_oF (by omega)]; exact b2
    · rw [z_o (by omega), z_o (by omega)]; exact c1
    · rw [z_oF (by omega), z_oF (by omega)]; exact c2
    · rw [z_o (by omega), z_o (by omega)]; exact e1'
    · rw [z_o (by omega), z_o (by omega)]; exact e2'
    · rw [z_k (by decide), z_k (by decide)]; exact g1
    · rw [z_oF (by omega), z_oF (by omega), z_oF (by omega), z_oF (by omega), z_oF (by omega), z_oF (by omega)]; exact g2
    · dsimp only
      rw [z_k (show (9 : Nat) ≠ 10 by decide), z_s ⟨by decide, by decide⟩, z_s (z_R _ _ _)]
      unfold FA at j1 ⊢
      by_cases q2 : fb ≠ 0
      · rw [if_pos q2] at j1; exact absurd (j1.1.symm.trans q) q2
      · rw [if_neg q2] at j1 ⊢
        cases f with
        | none => exact ⟨rfl, rfl⟩
        | some x => rw [q] at j1; exact absurd j1.1 (by decide)
theorem f_operand {K : Int → q_H → Prop} {m : Nat} {r : Except Nat q_Mc} (hd : 3 ≤ d) (hp : p = 16 ∨ p = 29) (h : FX T p (z σ0 5) fb wb σ0 (t, S, (W, D, k, its), f) σ) (hI : IVc (t, S, (W, D, k, its), f)) (hX : cX (z σ0 4) (nmI p σ0) (nmB p σ0) m true (t, S, (W, D, k, its), f) = some r)
    (k0 : ∀ τ x, r = .error x → EX T p σ0 τ → z τ 2 8 = ((x : Nat) : Int) → K 0 τ) (k1 : ∀ τ C m', FX T p (z σ0 5) fb wb σ0 C τ → IVc C → C.2.2.1.2.1 ≤ 30 → t < C.1 → cX (z σ0 4) (nmI p σ0) (nmB p σ0) m' false C = some r → K 1 τ) : J ω m_Pa_operand d 0 0 0 0 0 [(0, .ref 8)] [] σ (q_ki K) := by
  obtain ⟨d, rfl⟩ : ∃ k, d = k + 1 := ⟨d - 1, by omega⟩
  have l : ∀ (m i : Nat) (ρ : q_H) (t' D : Nat) (S : List Int), t ≤ t' → i ≤ D → FX T p (z σ0 5) fb wb σ0 (t', S, (W, D, k, its), f) ρ → IVc (t', S, (W, D, k, its), f) → cX (z σ0 4) (nmI p σ0) (nmB p σ0) m true (t', S, (W, D, k, its), f) = some r → J ω m_Pa_operand (d + 1) 0 0 0 0 2 [(0, .ref 8), (1, .int (zI (i : Int)))] [] ρ (q_ki K) := by
    intro m
    induction m with
    | zero => intro i ρ t' D S _ _ _ _ hX; cases hX
    | succ m ih =>
      intro i ρ t' D S htt hiD h hI hX
      obtain ⟨⟨hE, r0, r1⟩, fr0, kt, -⟩ := id h.1
      obtain ⟨i1, i2, i3⟩ := id hI
      dsimp only at i1 i2 i3
      have e2 : z ρ 2 8 = (t' : Int) := h.2.1.1
      have tT : t' ≤ T := h.2.1.2
      have T4 := kt.1
      have e13 : z ρ 8 13 = (D : Int) := h.2.2.2.2.1
      have e4 : z ρ 4 = z σ0 4 := fr_zF fr0 (by simp; omega)
      have e6 : q_l ρ 6 = q_l σ0 6 := (fr0.2.2.2 6 (by simp; omega)).2
      have hc := EX_c h.1
      have hk := EX_k h.1
      rw [e2, Int.toNat_natCast, e4] at hk
      unfold cX at hX
      have z0 : ∀ x, r = .error x → x = t' → q_ki K (.inl (some (.int (zI 0)))) ρ := fun x q1 q2 => ⟨0, ⟨by decide, by decide⟩, rfl, k0 ρ x q1 h.1 (by rw [q2]; exact e2)⟩
      refine b_Pa_operand_2 hp r0 r1 hE ?_
      rw [e2, e13, Int.toNat_natCast, e4, e6]
      refine ⟨⟨by omega, by omega⟩, fun c => absurd c (by omega), fun _ => ⟨fun c => ?_, fun c => ?_⟩⟩
      · rw [if_pos (by omega)] at hX
        exact z0 t' (Option.some.inj hX).symm rfl
      · rw [if_neg (by omega)] at hX
        have deep : ∀ (u : Int) (pc : J ω m_Pa_operand (d + 1) 0 0 0 0 149 [(0, .ref 8), (1, .int (zI (i : Int)))] [] ρ (q_ki K) → True), (z σ0 4 t' = 19 ∨ z σ0 4 t' = 20 ∨ z σ0 4 t' = 15 ∨ z σ0 4 t' = 35) → u = (if z σ0 4 t' = 15 then 21 else z σ0 4 t') → S.length < 400 ∧ t' < T ∧ (1 ≤ u ∧ u ≤ 47) ∧ cX (z σ0 4) (nmI p σ0) (nmB p σ0) m true (t' + 1, u :: S, (W, D + 1, k, its), f) = some r := fun u _ q eu => by
          rw [if_neg (by omega), if_pos q, ← eu] at hX
          by_cases c4 : S.length < 400
          · rw [if_pos c4] at hX
            refine ⟨c4, by have := hk.2.2.1 (by omega); omega, ?_, hX⟩
            rw [eu]; split <;> omega
          · rw [if_neg c4] at hX; cases hX
        have nxt : ∀ (u : Int) (τ : q_H), FX T p (z σ0 5) fb wb σ0 (t' + 1, u :: S, (W, D + 1, k, its), f) τ → cX (z σ0 4) (nmI p σ0) (nmB p σ0) m true (t' + 1, u :: S, (W, D + 1, k, its), f) = some r → J ω m_Pa_operand (d + 1) 0 0 0 0 2 [(0, .ref 8), (1, .int (zI ((i : Int) + 1)))] [] τ (q_ki K) := fun u τ hτ hX2 => by
          rw [show (i : Int) + 1 = ((i + 1 : Nat) : Int) by omega]
          refine ih (i + 1) τ (t' + 1) (D + 1) (u :: S) (by omega) (by omega) hτ ⟨?_, by dsimp only; omega, by dsimp only; rw [List.length_cons]; omega⟩ hX2
          show (if 19 ≤ u then 1 else 0) + dpt S ≤ D + 1
          split <;> omega
        refine ⟨by rw [← e2]; exact hc, fun q => ?_, fun q => ?_, fun q => ?_, fun q => ?_, fun q => ?_⟩
        · obtain ⟨g1, g2, g3, g4⟩ := deep 21 (fun _ => trivial) (by omega) (by rw [if_pos q])
          exact f_deepen (by omega) hp h g1 g3 g2 (by omega) (fun τ hτ => b_Pa_operand_149 hp hτ.1.1.2.1 hτ.1.1.2.2 hτ.1.1.1 (nxt _ τ hτ g4))
        · obtain ⟨g1, g2, g3, g4⟩ := deep (z σ0 4 t') (fun _ => trivial) (by omega) (by rw [if_neg (by omega)])
          exact f_deepen (by omega) hp h g1 g3 g2 (by omega) (fun τ hτ => b_Pa_operand_140 hp hτ.1.1.2.1 hτ.1.1.2.2 hτ.1.1.1 (nxt _ τ hτ g4))
        · have tl : t' < T := by have := hk.2.2.1 (by omega); omega
          rw [if_pos (Or.inl q)] at hX
          by_cases c4 : W.length < 400
          · rw [if_pos c4] at hX
            have hn := hk.2.2.2 q
            rw [e6] at hn
            have eI : nmI p σ0 t' = (23, zL (q_l σ0 6 t'), lwd (zL (q_l σ0 6 t'))) := by unfold nmI; rw [if_pos q]
            have lw8 : 1 ≤ lwd (zL (q_l σ0 6 t')) ∧ lwd (zL (q_l σ0 6 t')) ≤ 8 := by
              have g : ∀ k i, 1 ≤ i → 1 ≤ lwF (zL (q_l σ0 6 t')) k i ∧ lwF (zL (q_l σ0 6 t')) k i ≤ i + k := by
                intro k
                induction k with
                | zero => intro i hi; exact ⟨hi, Nat.le_refl _⟩
                | succ k ih =>
                  intro i hi
                  rw [lwF_s]
                  split
                  · omega
                  · have := ih (i + 1) (by omega); omega
              have := g 7 1 (Nat.le_refl _)
              unfold lwd; omega
            refine f_lw hE ⟨by omega, by omega⟩ (b_Pa_operand_117 hp r0 r1 hE (f_push hp h c4 (by omega) ⟨by decide, by decide⟩ (fun q => absurd q (by decide)) lw8 ⟨by omega, by omega⟩ (Or.inr (by decide)) (fun τ hτ => b_Pa_operand_120 hp hτ.1.1.2.1 hτ.1.1.2.2 hτ.1.1.1 (f_adv hp hτ tl (fun μ hμ => b_Pa_operand_127 hp hμ.1.1.2.1 hμ.1.1.2.2 hμ.1.1.1 ⟨1, ⟨by decide, by decide⟩, rfl, k1 μ _ m hμ ⟨i1, i2, ?_⟩ (by dsimp only; omega) (by dsimp only; omega) ?_⟩)))))
            · dsimp only; rw [List.length_append]; simp; omega
            · rw [eI] at hX
              have nB : nmB p σ0 t' = true := by unfold nmB; rw [q]; simp
              rw [nB, if_pos rfl, orF_n] at hX
              exact hX
          · rw [if_neg c4] at hX; cases hX
        · have tl : t' < T := by have := hk.2.2.1 (by omega); omega
          rw [if_pos (Or.inr q)] at hX
          by_cases c4 : W.length < 400
          · rw [if_pos c4] at hX
            refine f_named (by omega) hp h c4 (by omega) q (fun τ hτ => b_Pa_operand_88 hp hτ.1.1.2.1 hτ.1.1.2.2 hτ.1.1.1 (f_adv hp hτ tl (fun μ hμ => b_Pa_operand_95 hp hμ.1.1.2.1 hμ.1.1.2.2 hμ.1.1.1 ⟨1, ⟨by decide, by decide⟩, rfl, k1 μ _ m hμ ⟨i1, i2, ?_⟩ (by dsimp only; omega) (by dsimp only; omega) hX⟩)))
            dsimp only; rw [List.length_append]; simp; omega
          · rw [if_neg c4] at hX; cases hX
        · rw [if_neg (by omega), if_neg (by omega)] at hX
          exact z0 t' (Option.some.inj hX).symm rfl
  exact b_Pa_operand_0 hp h.1.1.2.1 h.1.1.2.2 h.1.1.1 (l m 0 σ t D S (Nat.le_refl _) (by omega) h hI hX)
end FeJ
