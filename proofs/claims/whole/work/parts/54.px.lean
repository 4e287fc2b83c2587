/-! THE PARSER, safety: the heap between STATEMENTS -/
def KS (T : Nat) (σ : q_H) : Prop := (∀ i, i < T → z σ 5 i + kl (z σ 4 i) ≤ z σ 5 (i + 1)) ∧ 0 ≤ z σ 5 0 ∧ z σ 5 T ≤ 4096
theorem kl_pos (k : Int) : 1 ≤ kl k := by unfold kl; split <;> (try split) <;> (try split) <;> (try split) <;> (try split) <;> (try split) <;> (try split) <;> decide
theorem KS_le {T : Nat} {σ : q_H} (h : KS T σ) (i : Nat) : ∀ j, i ≤ j → j ≤ T → z σ 5 i + ((j : Int) - i) ≤ z σ 5 j := by
  intro j
  induction j with
  | zero => intro h1 h2; rw [show i = 0 by omega]; omega
  | succ j ih =>
    intro h1 h2
    by_cases c : i = j + 1
    · rw [c]; omega
    · have a := ih (by omega) (by omega)
      have b := h.1 j (by omega)
      have k := kl_pos (z σ 4 j)
      omega
def SSt (p : Nat) : List Nat := [2, 8, 9, 10, 11, 12, 13, 14, 15, p, p + 5, p + 6, p + 7, p + 8, p + 9, p + 10, p + 11, p + 12]
def PX (T p : Nat) (σ0 σ : q_H) (h N : Nat) : Prop :=
  BX T p σ ∧ fr (SSt p) σ0 σ ∧ (∀ k, k ≠ 8 → z σ 2 k = z σ0 2 k) ∧ (∀ k, k ≠ 7 → k ≠ 8 → k ≠ 9 → k ≠ 10 → k ≠ 11 → k ≠ 17 → z σ p k = z σ0 p k) ∧ (z σ 8 7 = (h : Int) ∧ h ≤ 31 ∧ z σ 8 8 = cb (z σ 9) h) ∧ z σ p 11 = (N : Int) ∧ (0 ≤ z σ p 8 ∧ z σ p 8 ≤ 1501) ∧
  SX h N (z σ p 17) (z σ p 7) (z σ0 5 (z σ 2 8).toNat) (z σ 9) (z σ 10) (z σ 11) (z σ 12) (z σ 13) (z σ (p + 5)) (z σ (p + 6)) (z σ (p + 7)) (z σ (p + 8)) (z σ (p + 9))
section PxP
variable {ω : q_W} {d T p h N : Nat} {σ0 σ τ : q_H}
theorem BX_cong (hb : BX T p σ) (hE : q_E τ) (hr : q_r τ = q_r σ) (h24 : z τ 2 4 = z σ 2 4) (h28 : 0 ≤ z τ 2 8 ∧ z τ 2 8 ≤ T) (h4 : z τ 4 = z σ 4) (h6 : q_l τ 6 = q_l σ 6) (hp0 : z τ p 0 = z σ p 0) (hp4 : z τ p 4 = z σ p 4) (h17 : z τ p 17 = z σ p 17) (h1 : z τ (p + 1) = z σ (p + 1)) (h3 : z τ (p + 3) = z σ (p + 3)) (h10 : z τ (p + 10) = z σ (p + 10)) (h11 : z τ (p + 11) = z σ (p + 11)) (h12 : z τ (p + 12) = z σ (p + 12)) : BX T p τ := by
  obtain ⟨⟨a1, a2, a3⟩, ⟨c1, c2, c3⟩, ⟨w1, w2, w3, w4⟩, e1, i1⟩ := hb
  refine ⟨⟨hE, by rw [hr]; exact a2, by rw [hr]; exact a3⟩, ⟨c1, by rw [h24]; exact c2, by rw [h4, h6]; exact c3⟩, ⟨by rw [hp0]; exact w1, by rw [hp4]; exact w2, by rw [hp0, h1]; exact w3, by rw [hp4, h3]; exact w4⟩, h28, ?_⟩
  rw [h17]
  unfold IT
  rw [h10, h11, h12]
  exact i1
/-- what is written elsewhere does not touch it -/
theorem BX_fr {S : List Nat} (hb : BX T p σ) (f : fr S σ τ) (hS : 2 ∉ S ∧ 4 ∉ S ∧ 6 ∉ S ∧ p + 1 ∉ S ∧ p + 3 ∉ S ∧ p + 10 ∉ S ∧ p + 11 ∉ S ∧ p + 12 ∉ S) (hp0 : z τ p 0 = z σ p 0) (hp4 : z τ p 4 = z σ p 4) (h17 : z τ p 17 = z σ p 17) : BX T p τ := by
  have e2 := fr_zF f hS.1
  exact BX_cong hb (fr_E f hb.1.1) f.2.2.1 (by rw [e2]) (by rw [e2]; exact hb.2.2.2.1) (fr_zF f hS.2.1) (f.2.2.2 6 hS.2.2.1).2 hp0 hp4 h17 (fr_zF f hS.2.2.2.1) (fr_zF f hS.2.2.2.2.1) (fr_zF f hS.2.2.2.2.2.1) (fr_zF f hS.2.2.2.2.2.2.1) (fr_zF f hS.2.2.2.2.2.2.2)
theorem PX_c (hx : PX T p σ0 σ h N) : 0 ≤ z σ 2 8 ∧ z σ 2 8 ≤ T ∧ z σ 2 8 < 4097 := by
  obtain ⟨⟨-, ⟨c1, -⟩, -, ⟨e1, e2⟩, -⟩, -⟩ := hx
  omega
theorem PX_4 (hp : p = 16 ∨ p = 29) (hx : PX T p σ0 σ h N) : z σ 4 = z σ0 4 ∧ z σ 5 = z σ0 5 := by
  obtain ⟨-, f, -⟩ := hx
  exact ⟨fr_zF f (by unfold SSt; simp; omega), fr_zF f (by unfold SSt; simp; omega)⟩
theorem PX_N (ks : KS T σ0) (hx : PX T p σ0 σ h N) : N ≤ 1638 ∧ 5 * ((N : Int) + cn (z σ 9) h) ≤ 2 * z σ0 5 (z σ 2 8).toNat ∧ 0 ≤ z σ p 7 ∧ 8 * z σ p 7 ≤ z σ0 5 (z σ 2 8).toNat ∧ z σ0 5 (z σ 2 8).toNat ≤ 4096 := by
  have hc := PX_c hx
  obtain ⟨-, -, -, -, -, -, -, ⟨-, -, -, s4, s5⟩⟩ := hx
  have k := KS_le ks (z σ 2 8).toNat T (by omega) (Nat.le_refl _)
  have b := cn_bd (z σ 9) h
  have k2 := ks.2.2
  omega
/-- the token moves on -/
theorem PX_28 {c : Int} (hp : p = 16 ∨ p = 29) (ks : KS T σ0) (hx : PX T p σ0 σ h N) (h1 : z σ 2 8 ≤ c) (h2 : c ≤ T) : PX T p σ0 (zs σ 2 8 c) h N := by
  have hc := PX_c hx
  obtain ⟨hb, f, g2, gp, ⟨h7, h31, h8⟩, hN, hw, hs⟩ := hx
  have c1 := hb.2.1.1
  have e8 : z (zs σ 2 8 c) 2 8 = c := z_s ⟨by omega, by omega⟩
  have o : ∀ a, a ≠ 2 → z (zs σ 2 8 c) a = z σ a := fun a h => z_oF h
  refine ⟨BX_cong hb (zs_E hb.1.1) rfl (z_k (by decide)) (by omega) (o 4 (by decide)) rfl (by rw [o p (by omega)]) (by rw [o p (by omega)]) (by rw [o p (by omega)]) (o _ (by omega)) (o _ (by omega)) (o _ (by omega)) (o _ (by omega)) (o _ (by omega)), fr_s f (by unfold SSt; simp), fun k hk => (z_k hk).trans (g2 k hk), ?_, ?_, ?_, ?_, ?_⟩
  · rw [o p (by omega)]; exact gp
  · rw [o 8 (by decide), o 9 (by decide)]; exact ⟨h7, h31, h8⟩
  · rw [o p (by omega)]; exact hN
  · rw [o p (by omega)]; exact hw
  · rw [e8, o p (by omega), o 9 (by decide), o 10 (by decide), o 11 (by decide), o 12 (by decide), o 13 (by decide), o (p + 5) (by omega), o (p + 6) (by omega), o (p + 7) (by omega), o (p + 8) (by omega), o (p + 9) (by omega)]
    have k := KS_le ks (z σ 2 8).toNat c.toNat (by omega) (by omega)
    obtain ⟨-, -, -, -, s5⟩ := id hs
    exact SX_mono hs (Int.le_refl _) (by omega) ⟨s5.1.1, by have := s5.1; omega⟩
/-- an EXPR has been read -/
theorem PX_EX (hp : p = 16 ∨ p = 29) (ks : KS T σ0) (hx : PX T p σ0 σ h N) (he : EX T p σ τ) : PX T p σ0 τ h N := by
  have hc := PX_c hx
  have hB := EX_B he
  obtain ⟨hb, f, g2, gp, ⟨h7, h31, h8⟩, hN, hw, hs⟩ := hx
  obtain ⟨a, b, c, w, d, e1, f1, g1, s1, t1, i1, k1⟩ := he
  have o : ∀ a, a ∉ [2, 8, 14, 15, p, p + 10, p + 11, p + 12] → z τ a = z σ a := fun a h => fr_zF b h
  have o9 := o 9 (by simp; omega)
  have o10 := o 10 (by simp; omega)
  have o11 := o 11 (by simp; omega)
  have o12 := o 12 (by simp; omega)
  have o13 := o 13 (by simp; omega)
  have p5 := o (p + 5) (by simp; omega)
  have p6 := o (p + 6) (by simp; omega)
  have p7 := o (p + 7) (by simp; omega)
  have p8 := o (p + 8) (by simp; omega)
  have p9 := o (p + 9) (by simp; omega)
  refine ⟨hB, fr_trans f (fr_mono b (by unfold SSt; simp)), fun k hk => (d k hk).trans (g2 k hk), fun k q1 q2 q3 q4 q5 q6 => (f1 k q3 q4 q6).trans (gp k q1 q2 q3 q4 q5 q6), ?_, ?_, ?_, ?_⟩
  · rw [g1 7 (by decide), g1 8 (by decide), o9]; exact ⟨h7, h31, h8⟩
  · rw [f1 11 (by decide) (by decide) (by decide)]; exact hN
  · rw [f1 8 (by decide) (by decide) (by decide)]; exact hw
  · rw [f1 7 (by decide) (by decide) (by decide), o9, o10, o11, o12, o13, p5, p6, p7, p8, p9]
    have k := KS_le ks (z σ 2 8).toNat (z τ 2 8).toNat (by omega) (by omega)
    obtain ⟨-, -, -, -, s5⟩ := id hs
    exact SX_mono hs (by omega) (by omega) ⟨s5.1.1, by have := s5.1; omega⟩
theorem PX_note {x y : Int} (hp : p = 16 ∨ p = 29) (hx : PX T p σ0 σ h N) : PX T p σ0 (zs (zs σ p 9 x) p 10 y) h N := by
  obtain ⟨hb, f, g2, gp, ⟨h7, h31, h8⟩, hN, hw, hs⟩ := hx
  have o : ∀ a, a ≠ p → z (zs (zs σ p 9 x) p 10 y) a = z σ a := fun a h => (z_oF h).trans (z_oF h)
  have s : ∀ j, j ≠ 9 → j ≠ 10 → z (zs (zs σ p 9 x) p 10 y) p j = z σ p j := fun j h g => (z_k g).trans (z_k h)
  refine ⟨BX_cong hb (zs_E (zs_E hb.1.1)) rfl (by rw [o 2 (by omega)]) (by rw [o 2 (by omega)]; exact hb.2.2.2.1) (o 4 (by omega)) rfl (s 0 (by decide) (by decide)) (s 4 (by decide) (by decide)) (s 17 (by decide) (by decide)) (o _ (by omega)) (o _ (by omega)) (o _ (by omega)) (o _ (by omega)) (o _ (by omega)), fr_s (fr_s f (by unfold SSt; simp)) (by unfold SSt; simp), ?_, fun k q1 q2 q3 q4 q5 q6 => (s k q3 q4).trans (gp k q1 q2 q3 q4 q5 q6), ?_, ?_, ?_, ?_⟩
  · rw [o 2 (by omega)]; exact g2
  · rw [o 8 (by omega), o 9 (by omega)]; exact ⟨h7, h31, h8⟩
  · rw [s 11 (by decide) (by decide)]; exact hN
  · rw [s 8 (by decide) (by decide)]; exact hw
  · rw [s 17 (by decide) (by decide), s 7 (by decide) (by decide), o 2 (by omega), o 9 (by omega), o 10 (by omega), o 11 (by omega), o 12 (by omega), o 13 (by omega), o (p + 5) (by omega), o (p + 6) (by omega), o (p + 7) (by omega), o (p + 8) (by omega), o (p + 9) (by omega)]
    exact hs
theorem y_adv {K : q_H → Prop} (hp : p = 16 ∨ p = 29) (ks : KS T σ0) (hx : PX T p σ0 σ h N) (kk : ∀ τ c, τ = zs σ 2 8 c → PX T p σ0 τ h N → z τ 2 8 = c → z σ 2 8 ≤ c → c ≤ T → (z σ 4 (z σ 2 8).toNat ≠ 46 → c = z σ 2 8 + 1) → K τ) : J ω m_Sc_advance d 0 0 0 0 0 [(0, .ref 2)] [] σ (q_kv K) := by
  have hc := PX_c hx
  obtain ⟨⟨⟨hE, r0, r1⟩, ⟨c1, c2, c3⟩, -⟩, -⟩ := id hx
  refine b_Sc_advance_0 hE ?_
  rw [c2]
  refine ⟨⟨by omega, by omega⟩, fun c => ⟨rfl, ?_⟩, fun c => ⟨rfl, ?_⟩⟩
  · have e : z σ 2 8 = T := by omega
    refine kk σ (z σ 2 8) (zs_self rfl).symm hx rfl (Int.le_refl _) (by omega) (fun h => absurd ((c3 (z σ 2 8).toNat (by omega)).2.2.1.mpr (by omega)) h)
  · exact kk _ _ rfl (PX_28 hp ks hx (by omega) (by omega)) (z_s ⟨by omega, by omega⟩) (by omega) (by omega) (fun _ => rfl)
theorem y_accept {K : Int → q_H → Prop} {x1 : Int} (hd : 1 ≤ d) (hp : p = 16 ∨ p = 29) (ks : KS T σ0) (hx : PX T p σ0 σ h N) (hx1 : inR x1) (h46 : x1 ≠ 46) (k0 : K 0 σ) (kk : z σ 4 (z σ 2 8).toNat = x1 → ∀ τ, τ = zs σ 2 8 (z σ 2 8 + 1) → PX T p σ0 τ h N → z τ 2 8 = z σ 2 8 + 1 → z σ 2 8 + 1 ≤ T → K 1 τ) : J ω m_Pa_accept d 0 0 0 0 0 [(0, .ref 8), (1, .int (zI x1))] [] σ (q_ki K) := by
  obtain ⟨d, rfl⟩ : ∃ k, d = k + 1 := ⟨d - 1, by omega⟩
  have hc := PX_c hx
  obtain ⟨⟨⟨hE, r0, r1⟩, -⟩, -⟩ := id hx
  refine b_Pa_accept_0 hp r0 r1 hE ⟨⟨by omega, by omega⟩, hx1, fun c => y_adv hp ks hx (fun τ c' e1 ht e2 e3 e4 e5 => ?_), fun _ => ⟨0, ⟨by decide, by decide⟩, rfl, k0⟩⟩
  have e6 := e5 (by rw [c]; exact h46)
  obtain ⟨⟨⟨hE2, r02, r12⟩, -⟩, -⟩ := id ht
  subst e6
  exact b_Pa_accept_20 hp r02 r12 hE2 ⟨1, ⟨by decide, by decide⟩, rfl, kk c τ e1 ht e2 e4⟩
theorem x_addStep {K : Int → q_H → Prop} {x1 x2 x3 : Int} (hp : p = 16 ∨ p = 29) (hE : q_E σ) (hN : 0 ≤ z σ p 11 ∧ z σ p 11 < 2048) (i1 : inR x1) (i2 : inR x2) (i3 : inR x3)
    (kk : ∀ ρ, fr [p, p + 5, p + 6, p + 7, p + 8, p + 9] σ ρ → (∀ k, k ≠ 11 → z ρ p k = z σ p k) → z ρ p 11 = z σ p 11 + 1 → z ρ (p + 5) = up (z σ (p + 5)) (z σ p 11).toNat x1 → z ρ (p + 6) = up (z σ (p + 6)) (z σ p 11).toNat x2 → z ρ (p + 7) = up (z σ (p + 7)) (z σ p 11).toNat x3 → z ρ (p + 8) = up (z σ (p + 8)) (z σ p 11).toNat (z σ p 17) → z ρ (p + 9) = up (z σ (p + 9)) (z σ p 11).toNat 0 → K (z σ p 11) ρ) :
    J ω m_Pr_addStep d 0 0 0 0 0 [(0, .ref p), (1, .int (zI x1)), (2, .int (zI x2)), (3, .int (zI x3))] [] σ (q_ki K) := by
  refine b_Pr_addStep_0 hp hE ⟨fun _ => ⟨hN, _, z_R _ _ _, rfl, ?_⟩, fun c => absurd c (by omega)⟩
  refine kk _ (fr_s (fr_s (fr_s (fr_s (fr_s (fr_s fr_refl (by simp)) (by simp)) (by simp)) (by simp)) (by simp)) (by simp)) (fun k hk => ?_) ?_ ?_ ?_ ?_ ?_ ?_
  · rw [z_k hk, z_o (by omega), z_o (by omega), z_o (by omega), z_o (by omega), z_o (by omega)]
  · exact z_s ⟨by omega, by omega⟩
  · rw [z_oF (by omega), z_oF (by omega), z_oF (by omega), z_oF (by omega), z_oF (by omega), z_up i1]
  · rw [z_oF (by omega), z_oF (by omega), z_oF (by omega), z_oF (by omega), z_up i2, z_oF (by omega)]
  · rw [z_oF (by omega), z_oF (by omega), z_oF (by omega), z_up i3, z_oF (by omega), z_oF (by omega)]
  · rw [z_oF (by omega), z_oF (by omega), z_up (z_R _ _ _), z_oF (by omega), z_oF (by omega), z_oF (by omega)]
  · rw [z_oF (by omega), z_up ⟨by decide, by decide⟩, z_oF (by omega), z_oF (by omega), z_oF (by omega), z_oF (by omega)]
theorem x_capped {K : Int → q_H → Prop} {x0 : Int} (hd : 1 ≤ d) (hE : q_E σ) (hx : inR x0) (kk : K (min x0 1501) σ) : J ω m_Pa_capped d 0 0 0 0 0 [(0, .int (zI x0))] [] σ (q_ki K) := by
  obtain ⟨d, rfl⟩ : ∃ k, d = k + 1 := ⟨d - 1, by omega⟩
  have := hx.1
  have := hx.2
  exact b_Pa_capped_0 hE ⟨hx, _, ⟨by omega, by omega⟩, rfl, kk⟩
end PxP
