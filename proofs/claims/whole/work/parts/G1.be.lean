/-! The class reads a TEXT whole -/
section BeP
variable {ω : q_W} {d T p q n : Nat} {σ0 σ ρ : q_H}
theorem GP_of {N : Nat} (hp : p = 16 ∨ p = 29) (ks : KS T σ0) (hx : PX T p σ0 ρ 0 N) (hb1 : z σ0 p 0 ≤ z σ0 p 1 ∧ z σ0 p 1 ≤ 12) (hsm : sm (z σ0 (p + 1)) (z σ0 p 0).toNat = z σ0 p 1) (hw : WD p σ0) : GP p ρ := by
  obtain ⟨⟨-, kt, pw, c8, c17, c17b, iti, it0⟩, f, g2, gp, -, h11, -, sx⟩ := id hx
  obtain ⟨-, -, sv, s5, sas, f1⟩ := sx
  have e0 := gp 0 (by decide) (by decide) (by decide) (by decide) (by decide) (by decide)
  have e1 := gp 1 (by decide) (by decide) (by decide) (by decide) (by decide) (by decide)
  have z1 : z ρ (p + 1) = z σ0 (p + 1) := fr_zF f (by unfold SSt; simp; omega)
  have z3 : z ρ (p + 3) = z σ0 (p + 3) := fr_zF f (by unfold SSt; simp; omega)
  have le := KS_le ks (z ρ 2 8).toNat T (by omega) (Nat.le_refl _)
  have hT := ks.2.2
  have cn0 : cn (z ρ 9) 0 = 0 := rfl
  rw [cn0] at s5
  refine ⟨pw, by rw [e0, e1, z1]; exact ⟨hb1.1, hb1.2, hsm⟩, ⟨c17, c17b, iti⟩, ⟨by omega, by omega, fun i hi => ?_⟩, by omega, by rw [h11, Int.toNat_natCast]; exact f1, it0, fun i hi => by rw [z3]; exact hw i hi⟩
  rw [h11] at hi ⊢
  obtain ⟨a1, a2, a3, a4, a5, a6, a7, a8, a9, a10, a11⟩ := sv i (by omega)
  exact ⟨a1, a2, a3, a4, a5, a6, a7, a8, a9, a10, fun h => (a11 h).imp id (fun o => by obtain ⟨j, hj, -⟩ := o; exact absurd hj (Nat.not_lt_zero _))⟩
theorem GP_note {x y : Int} (hp : p = 16 ∨ p = 29) (h : GP p σ) : GP p (zs (zs σ p 9 x) p 10 y) := by
  have o : ∀ a, a ≠ p → z (zs (zs σ p 9 x) p 10 y) a = z σ a := fun a h => (z_oF h).trans (z_oF h)
  have s : ∀ j, j ≠ 9 → j ≠ 10 → z (zs (zs σ p 9 x) p 10 y) p j = z σ p j := fun j h g => (z_k g).trans (z_k h)
  unfold GP PW IT WD at h ⊢
  rw [o (p + 1) (by omega), o (p + 3) (by omega), o (p + 5) (by omega), o (p + 6) (by omega), o (p + 7) (by omega), o (p + 8) (by omega), o (p + 9) (by omega), o (p + 10) (by omega), o (p + 11) (by omega), o (p + 12) (by omega), s 0 (by decide) (by decide), s 1 (by decide) (by decide), s 4 (by decide) (by decide), s 7 (by decide) (by decide), s 11 (by decide) (by decide), s 17 (by decide) (by decide)]
  exact h
theorem nm_note {x y : Int} (hp : p = 16 ∨ p = 29) : nmI p (zs (zs σ p 9 x) p 10 y) = nmI p σ ∧ nmB p (zs (zs σ p 9 x) p 10 y) = nmB p σ := by
  have o : ∀ a, a ≠ p → z (zs (zs σ p 9 x) p 10 y) a = z σ a := fun a h => (z_oF h).trans (z_oF h)
  have s : ∀ j, j ≠ 9 → j ≠ 10 → z (zs (zs σ p 9 x) p 10 y) p j = z σ p j := fun j h g => (z_k g).trans (z_k h)
  have hf : ∀ w, fnd p (zs (zs σ p 9 x) p 10 y) w = fnd p σ w := fun w => by
    unfold fnd
    rw [s 0 (by decide) (by decide), s 4 (by decide) (by decide)]
    rfl
  refine ⟨funext fun t => ?_, funext fun t => ?_⟩
  · unfold nmI
    rw [hf, o 4 (by omega), o (p + 1) (by omega), o (p + 3) (by omega)]
    rfl
  · unfold nmB
    rw [hf, o 4 (by omega)]
    rfl
theorem DQt_note {x y : Int} {C : Nat → Int64} {D : q_Ds} (hp : p = 16 ∨ p = 29) (h : DQt p C D σ) : DQt p C D (zs (zs σ p 9 x) p 10 y) := by
  have o : ∀ a, a ≠ p → z (zs (zs σ p 9 x) p 10 y) a = z σ a := fun a h => (z_oF h).trans (z_oF h)
  have s : ∀ j, j ≠ 9 → j ≠ 10 → z (zs (zs σ p 9 x) p 10 y) p j = z σ p j := fun j h g => (z_k g).trans (z_k h)
  unfold DQt at h ⊢
  rw [o (p + 1) (by omega), o (p + 3) (by omega), s 0 (by decide) (by decide), s 1 (by decide) (by decide), s 4 (by decide) (by decide)]
  exact h
theorem KT_note {x y : Int} (hp : p = 16 ∨ p = 29) (h : KT T σ ∧ KS T σ ∧ z σ 4 T = 46) : KT T (zs (zs σ p 9 x) p 10 y) ∧ KS T (zs (zs σ p 9 x) p 10 y) ∧ z (zs (zs σ p 9 x) p 10 y) 4 T = 46 := by
  have o : ∀ a, a ≠ p → z (zs (zs σ p 9 x) p 10 y) a = z σ a := fun a h => (z_oF h).trans (z_oF h)
  unfold KT KS at h ⊢
  rw [o 2 (by omega), o 4 (by omega), o 5 (by omega)]
  exact h
/-- behind begin -/
theorem h_begin {K : q_H → Prop} (hd : 2 ≤ d) (hq : q = 16 ∨ q = 29) (hE : q_E σ) (ks : KT T σ ∧ KS T σ ∧ z σ 4 T = 46) (h8 : z σ 2 8 = 0) (hw : WD q σ)
    (kk : ∀ τ, DX T q τ τ → DQ q (z τ 5) (q_l τ 6) 0 ([], [], none) τ → frE (SPq q) R8 σ τ → z τ 2 = z σ 2 → z τ 4 = z σ 4 → z τ 5 = z σ 5 → q_l τ 6 = q_l σ 6 → z τ 8 7 = 0 → z τ 8 8 = 0 → z τ q 7 = 0 → z τ q 8 = 0 → z τ q 11 = 0 → z τ q 17 = 0 → K τ) : J ω m_Pa_begin d 0 0 0 0 0 [(0, .ref 8), (1, .ref 2), (2, .ref q)] [] σ (q_kv K) := by
  obtain ⟨d, rfl⟩ : ∃ k, d = k + 1 := ⟨d - 1, by omega⟩
  refine b_Pa_begin_0 hq hE ?_
  have E1 : q_E (zr (zr σ 8 0 2) 8 1 q) := zr_E (zr_E hE (by decide)) (by decide)
  refine b_Pr_clear_0 hq E1 ⟨rfl, ?_⟩
  have E2 : q_E (zs (zs (zs (zs (zs (zs (zs (zs (zs (zr (zr σ 8 0 2) 8 1 q) q 0 0) q 1 0) q 4 0) q 7 0) q 8 0) q 9 0) q 10 (-1)) q 11 0) q 17 0) := zs_E (zs_E (zs_E (zs_E (zs_E (zs_E (zs_E (zs_E (zs_E E1))))))))
  refine b_Pa_begin_17 hq E2 ?_
  have R0 : inR 0 := ⟨by decide, by decide⟩
  have R1 : inR (-1) := ⟨by decide, by decide⟩
  have eo : ∀ a, a ≠ q → a ≠ 8 → z (zs (zs (zs (zs (zs (zs (zs (zs (zs (zs (zs (zr (zr σ 8 0 2) 8 1 q) q 0 0) q 1 0) q 4 0) q 7 0) q 8 0) q 9 0) q 10 (-1)) q 11 0) q 17 0) 8 7 0) 8 8 0) a = z σ a := fun a h1 h2 => by
    rw [z_oF h2, z_oF h2, z_oF h1, z_oF h1, z_oF h1, z_oF h1, z_oF h1, z_oF h1, z_oF h1, z_oF h1, z_oF h1]; rfl
  have eq : ∀ j, z (zs (zs (zs (zs (zs (zs (zs (zs (zs (zs (zs (zr (zr σ 8 0 2) 8 1 q) q 0 0) q 1 0) q 4 0) q 7 0) q 8 0) q 9 0) q 10 (-1)) q 11 0) q 17 0) 8 7 0) 8 8 0) q j = if j = 17 then 0 else if j = 11 then 0 else if j = 10 then -1 else if j = 9 then 0 else if j = 8 then 0 else if j = 7 then 0 else if j = 4 then 0 else if j = 1 then 0 else if j = 0 then 0 else z σ q j := fun j => by
    rw [z_o (by omega), z_o (by omega), z_if R0, z_if R0, z_if R1, z_if R0, z_if R0, z_if R0, z_if R0, z_if R0, z_if R0]
    simp only [true_and]
    rfl
  have e8 : z (zs (zs (zs (zs (zs (zs (zs (zs (zs (zs (zs (zr (zr σ 8 0 2) 8 1 q) q 0 0) q 1 0) q 4 0) q 7 0) q 8 0) q 9 0) q 10 (-1)) q 11 0) q 17 0) 8 7 0) 8 8 0) 8 7 = 0 ∧ z (zs (zs (zs (zs (zs (zs (zs (zs (zs (zs (zs (zr (zr σ 8 0 2) 8 1 q) q 0 0) q 1 0) q 4 0) q 7 0) q 8 0) q 9 0) q 10 (-1)) q 11 0) q 17 0) 8 7 0) 8 8 0) 8 8 = 0 := ⟨by rw [z_k (by decide), z_s R0], z_s R0⟩
  have F : frE (SPq q) R8 σ (zs (zs (zs (zs (zs (zs (zs (zs (zs (zs (zs (zr (zr σ 8 0 2) 8 1 q) q 0 0) q 1 0) q 4 0) q 7 0) q 8 0) q 9 0) q 10 (-1)) q 11 0) q 17 0) 8 7 0) 8 8 0) := by
    have f0 : frE (SPq q) R8 σ (zr (zr σ 8 0 2) 8 1 q) := ⟨rfl, rfl, fun o k hk => by
      by_cases ho : o = 8
      · subst ho
        rw [zr_k (fun e => hk ⟨rfl, Or.inr e⟩), zr_k (fun e => hk ⟨rfl, Or.inl e⟩)]
      · rw [zr_o ho, zr_o ho], fun _ _ => ⟨rfl, rfl⟩⟩
    have q1 : q ∈ SPq q := by unfold SPq; simp
    have q8 : 8 ∈ SPq q := by unfold SPq; simp
    exact frE_trans f0 (frE_of (T := SPq q) (fr_s (fr_s (fr_s (fr_s (fr_s (fr_s (fr_s (fr_s (fr_s (fr_s (fr_s fr_refl q1) q1) q1) q1) q1) q1) q1) q1) q1) q8) q8) (fun x hx => hx))
  have rr : q_r (zs (zs (zs (zs (zs (zs (zs (zs (zs (zs (zs (zr (zr σ 8 0 2) 8 1 q) q 0 0) q 1 0) q 4 0) q 7 0) q 8 0) q 9 0) q 10 (-1)) q 11 0) q 17 0) 8 7 0) 8 8 0) 8 0 = 2 ∧ q_r (zs (zs (zs (zs (zs (zs (zs (zs (zs (zs (zs (zr (zr σ 8 0 2) 8 1 q) q 0 0) q 1 0) q 4 0) q 7 0) q 8 0) q 9 0) q 10 (-1)) q 11 0) q 17 0) 8 7 0) 8 8 0) 8 1 = q := ⟨by show q_r (zr (zr σ 8 0 2) 8 1 q) 8 0 = 2; rw [zr_k (by decide), zr_s], zr_s⟩
  have E3 : q_E (zs (zs (zs (zs (zs (zs (zs (zs (zs (zs (zs (zr (zr σ 8 0 2) 8 1 q) q 0 0) q 1 0) q 4 0) q 7 0) q 8 0) q 9 0) q 10 (-1)) q 11 0) q 17 0) 8 7 0) 8 8 0) := zs_E (zs_E E2)
  generalize zs (zs (zs (zs (zs (zs (zs (zs (zs (zs (zs (zr (zr σ 8 0 2) 8 1 q) q 0 0) q 1 0) q 4 0) q 7 0) q 8 0) q 9 0) q 10 (-1)) q 11 0) q 17 0) 8 7 0) 8 8 0 = τ at *
  have t2 := eo 2 (by omega) (by decide)
  have t4 := eo 4 (by omega) (by decide)
  have t5 := eo 5 (by omega) (by decide)
  have l6 : q_l τ 6 = q_l σ 6 := frE_l F (by unfold SPq; simp; omega)
  have T0 : (0 : Int) ≤ T := by omega
  have q0 : z τ q 0 = 0 := by rw [eq]; simp
  have q1 : z τ q 1 = 0 := by rw [eq]; simp
  have q4 : z τ q 4 = 0 := by rw [eq]; simp
  have q9 : z τ q 9 = 0 := by rw [eq]; simp
  have q17 : z τ q 17 = 0 := by rw [eq]; simp
  have kt : KT T τ := by unfold KT; rw [t2, t4, l6]; exact ks.1
  have t28 : z τ 2 8 = 0 := by rw [t2]; exact h8
  refine ⟨rfl, kk τ ⟨⟨⟨E3, rr.1, rr.2⟩, kt, ⟨by omega, by omega, fun i hi => absurd hi (by omega), fun i hi => absurd hi (by omega)⟩, by omega, ⟨by omega, by omega, fun i hi => absurd hi (by omega), fun h => absurd h (by omega)⟩⟩, fr_refl, fun _ _ => rfl, fun _ _ _ _ _ _ => rfl, by omega, ?_, ?_⟩ ?_ F t2 t4 t5 l6 e8.1 e8.2 (by rw [eq]; simp) (by rw [eq]; simp) (by rw [eq]; simp) q17⟩
  · rw [q0, q1]; rfl
  · intro i hi; rw [eo (q + 3) (by omega) (by omega)]; exact hw i hi
  · exact ⟨t28, q0, q4, q1, fun j e h => by simp at h, fun j e h => by simp at h, q9⟩
end BeP
