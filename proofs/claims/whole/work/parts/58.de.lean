/-! THE PARSER, safety: DECLARATIONS, the beginning and the end -/
def sm (f : Nat → Int) : Nat → Int
  | 0 => 0
  | i + 1 => sm f i + f i
theorem sm_up {f : Nat → Int} {n : Nat} {a : Int} : ∀ i, i ≤ n → sm (up f n a) i = sm f i
  | 0, _ => rfl
  | i + 1, h => by
    show sm (up f n a) i + up f n a i = sm f i + f i
    rw [sm_up i (by omega), up_n (by omega)]
/-- all WIDTHS of VARIABLES, told or not -/
def WD (p : Nat) (σ : q_H) : Prop := ∀ i : Nat, i < 12 → 0 ≤ z σ (p + 3) i ∧ z σ (p + 3) i ≤ 8
/-- between DECLARATIONS -/
def DX (T p : Nat) (σ0 σ : q_H) : Prop :=
  BX T p σ ∧ fr [2, p, p + 1, p + 2, p + 3, p + 4] σ0 σ ∧ (∀ k, k ≠ 8 → z σ 2 k = z σ0 2 k) ∧ (∀ k, k ≠ 0 → k ≠ 1 → k ≠ 4 → k ≠ 9 → k ≠ 10 → z σ p k = z σ0 p k) ∧ (z σ p 0 ≤ z σ p 1 ∧ z σ p 1 ≤ 12) ∧ sm (z σ (p + 1)) (z σ p 0).toNat = z σ p 1 ∧ WD p σ
section DeP
variable {ω : q_W} {d T p : Nat} {σ0 σ : q_H}
theorem DX_28 {c : Int} (hp : p = 16 ∨ p = 29) (hx : DX T p σ0 σ) (h1 : z σ 2 8 ≤ c) (h2 : c ≤ T) : DX T p σ0 (zs σ 2 8 c) := by
  obtain ⟨hb, f, g2, gp, b1, b2⟩ := hx
  have c1 := hb.2.1.1
  have c0 := hb.2.2.2.1
  have e8 : z (zs σ 2 8 c) 2 8 = c := z_s ⟨by omega, by omega⟩
  have o : ∀ a, a ≠ 2 → z (zs σ 2 8 c) a = z σ a := fun a h => z_oF h
  refine ⟨BX_cong hb (zs_E hb.1.1) rfl (z_k (by decide)) (by omega) (o 4 (by decide)) rfl (by rw [o p (by omega)]) (by rw [o p (by omega)]) (by rw [o p (by omega)]) (o _ (by omega)) (o _ (by omega)) (o _ (by omega)) (o _ (by omega)) (o _ (by omega)), fr_s f (by simp), fun k hk => (z_k hk).trans (g2 k hk), ?_, ?_, ?_⟩
  · rw [o p (by omega)]; exact gp
  · rw [o p (by omega)]; exact b1
  · unfold WD; rw [o p (by omega), o (p + 1) (by omega), o (p + 3) (by omega)]; exact b2
theorem DX_note {x y : Int} (hp : p = 16 ∨ p = 29) (hx : DX T p σ0 σ) : DX T p σ0 (zs (zs σ p 9 x) p 10 y) := by
  obtain ⟨hb, f, g2, gp, b1, b2⟩ := hx
  have o : ∀ a, a ≠ p → z (zs (zs σ p 9 x) p 10 y) a = z σ a := fun a h => (z_oF h).trans (z_oF h)
  have s : ∀ j, j ≠ 9 → j ≠ 10 → z (zs (zs σ p 9 x) p 10 y) p j = z σ p j := fun j h g => (z_k g).trans (z_k h)
  refine ⟨BX_cong hb (zs_E (zs_E hb.1.1)) rfl (by rw [o 2 (by omega)]) (by rw [o 2 (by omega)]; exact hb.2.2.2.1) (o 4 (by omega)) rfl (s 0 (by decide) (by decide)) (s 4 (by decide) (by decide)) (s 17 (by decide) (by decide)) (o _ (by omega)) (o _ (by omega)) (o _ (by omega)) (o _ (by omega)) (o _ (by omega)), fr_s (fr_s f (by simp)) (by simp), ?_, fun k q1 q2 q3 q4 q5 => (s k q4 q5).trans (gp k q1 q2 q3 q4 q5), ?_, ?_⟩
  · rw [o 2 (by omega)]; exact g2
  · rw [s 0 (by decide) (by decide), s 1 (by decide) (by decide)]; exact b1
  · unfold WD; rw [s 0 (by decide) (by decide), s 1 (by decide) (by decide), o (p + 1) (by omega), o (p + 3) (by omega)]; exact b2
theorem DX_c (hx : DX T p σ0 σ) : 0 ≤ z σ 2 8 ∧ z σ 2 8 ≤ T ∧ z σ 2 8 < 4097 := by
  obtain ⟨⟨-, ⟨c1, -⟩, -, ⟨e1, e2⟩, -⟩, -⟩ := hx
  omega
theorem d_adv {K : q_H → Prop} (hp : p = 16 ∨ p = 29) (hx : DX T p σ0 σ) (kk : ∀ τ, DX T p σ0 τ → K τ) : J ω m_Sc_advance d 0 0 0 0 0 [(0, .ref 2)] [] σ (q_kv K) := by
  have hc := DX_c hx
  obtain ⟨⟨⟨hE, r0, r1⟩, ⟨c1, c2, c3⟩, -⟩, -⟩ := id hx
  refine b_Sc_advance_0 hE ?_
  rw [c2]
  exact ⟨⟨by omega, by omega⟩, fun c => ⟨rfl, kk σ hx⟩, fun c => ⟨rfl, kk _ (DX_28 hp hx (by omega) (by omega))⟩⟩
theorem d_accept {K : Int → q_H → Prop} {x1 : Int} (hd : 1 ≤ d) (hp : p = 16 ∨ p = 29) (hx : DX T p σ0 σ) (hx1 : inR x1) (k0 : K 0 σ) (kk : z σ 4 (z σ 2 8).toNat = x1 → ∀ τ, DX T p σ0 τ → K 1 τ) : J ω m_Pa_accept d 0 0 0 0 0 [(0, .ref 8), (1, .int (zI x1))] [] σ (q_ki K) := by
  obtain ⟨d, rfl⟩ : ∃ k, d = k + 1 := ⟨d - 1, by omega⟩
  have hc := DX_c hx
  obtain ⟨⟨⟨hE, r0, r1⟩, -⟩, -⟩ := id hx
  refine b_Pa_accept_0 hp r0 r1 hE ⟨⟨by omega, by omega⟩, hx1, fun c => d_adv hp hx (fun τ ht => ?_), fun _ => ⟨0, ⟨by decide, by decide⟩, rfl, k0⟩⟩
  obtain ⟨⟨⟨hE2, r02, r12⟩, -⟩, -⟩ := id ht
  exact b_Pa_accept_20 hp r02 r12 hE2 ⟨1, ⟨by decide, by decide⟩, rfl, kk c τ ht⟩
theorem d_addInput {K : Int → q_H → Prop} {x1 : Int64} {x3 : Int} (hp : p = 16 ∨ p = 29) (hx : DX T p σ0 σ) (h3 : 1 ≤ x3 ∧ x3 ≤ 8) (kk : ∀ v τ, (v = 0 ∨ v = 1) → DX T p σ0 τ → K v τ) : J ω m_Pr_addInput d 0 0 0 0 0 [(0, .ref p), (1, .long x1), (3, .int (zI x3))] [] σ (q_ki K) := by
  obtain ⟨hb, f, g2, gp, b1, b2⟩ := id hx
  obtain ⟨⟨hE, r0, r1⟩, c, ⟨w1, w2, w3, w4⟩, e1, i1⟩ := id hb
  refine b_Pr_addInput_0 hp hE ⟨⟨by omega, by omega⟩, fun c12 => ⟨⟨by omega, by omega⟩, 1, ⟨by decide, by decide⟩, rfl, kk 1 _ (Or.inr rfl) ?_⟩, fun _ => ⟨0, ⟨by decide, by decide⟩, rfl, kk 0 σ (Or.inl rfl) hx⟩⟩
  have o : ∀ a, a ≠ p → a ≠ p + 1 → z (zs (zs (zs (zt σ (p + 2) (z σ p 0).toNat x1) (p + 1) (z σ p 0).toNat x3) p 0 (z σ p 0 + 1)) p 1 (z σ p 1 + x3)) a = z σ a := fun a h g => by rw [z_oF h, z_oF h, z_oF g]; rfl
  have s : ∀ j, z (zs (zs (zs (zt σ (p + 2) (z σ p 0).toNat x1) (p + 1) (z σ p 0).toNat x3) p 0 (z σ p 0 + 1)) p 1 (z σ p 1 + x3)) p j = if j = 1 then z σ p 1 + x3 else if j = 0 then z σ p 0 + 1 else z σ p j := fun j => by
    rw [z_if ⟨by omega, by omega⟩, z_if ⟨by omega, by omega⟩, z_o (by omega), z_t]; simp
  have s1 : z (zs (zs (zs (zt σ (p + 2) (z σ p 0).toNat x1) (p + 1) (z σ p 0).toNat x3) p 0 (z σ p 0 + 1)) p 1 (z σ p 1 + x3)) (p + 1) = up (z σ (p + 1)) (z σ p 0).toNat x3 := by
    rw [z_oF (by omega), z_oF (by omega), z_up ⟨by omega, by omega⟩]; rfl
  have l6 : q_l (zs (zs (zs (zt σ (p + 2) (z σ p 0).toNat x1) (p + 1) (z σ p 0).toNat x3) p 0 (z σ p 0 + 1)) p 1 (z σ p 1 + x3)) 6 = q_l σ 6 := q_row_n _ _ (by omega)
  have fr2 : fr [2, p, p + 1, p + 2, p + 3, p + 4] σ0 (zs (zs (zs (zt σ (p + 2) (z σ p 0).toNat x1) (p + 1) (z σ p 0).toNat x3) p 0 (z σ p 0 + 1)) p 1 (z σ p 1 + x3)) := fr_s (fr_s (fr_s (fr_t f (by simp)) (by simp)) (by simp)) (by simp)
  have rr : q_r (zs (zs (zs (zt σ (p + 2) (z σ p 0).toNat x1) (p + 1) (z σ p 0).toNat x3) p 0 (z σ p 0 + 1)) p 1 (z σ p 1 + x3)) = q_r σ := rfl
  have E2 : q_E (zs (zs (zs (zt σ (p + 2) (z σ p 0).toNat x1) (p + 1) (z σ p 0).toNat x3) p 0 (z σ p 0 + 1)) p 1 (z σ p 1 + x3)) := zs_E (zs_E (zs_E (zt_E hE)))
  generalize zs (zs (zs (zt σ (p + 2) (z σ p 0).toNat x1) (p + 1) (z σ p 0).toNat x3) p 0 (z σ p 0 + 1)) p 1 (z σ p 1 + x3) = π at *
  have t0 : z π p 0 = z σ p 0 + 1 := by rw [s]; rfl
  have t1 : z π p 1 = z σ p 1 + x3 := by rw [s]; rfl
  have tk : ∀ k, k ≠ 0 → k ≠ 1 → z π p k = z σ p k := fun k h g => by rw [s, if_neg g, if_neg h]
  have e2 := o 2 (by omega) (by omega)
  refine ⟨⟨⟨E2, by rw [rr]; exact r0, by rw [rr]; exact r1⟩, ?_, ⟨by omega, ?_, ?_, ?_⟩, ?_, ?_⟩, fr2, ?_, ?_, by omega, ?_, ?_⟩
  · unfold KT; rw [e2, o 4 (by omega) (by omega), l6]; exact c
  · rw [tk 4 (by decide) (by decide)]; exact w2
  · intro i hi
    rw [s1]
    unfold up
    split
    · exact h3
    · exact w3 i (by omega)
  · intro i; rw [tk 4 (by decide) (by decide), o (p + 3) (by omega) (by omega)]; exact w4 i
  · rw [e2]; exact e1
  · rw [tk 17 (by decide) (by decide)]; unfold IT; rw [o (p + 10) (by omega) (by omega), o (p + 11) (by omega) (by omega), o (p + 12) (by omega) (by omega)]; exact i1
  · rw [e2]; exact g2
  · intro k k0 k1 k4 k9 k10; rw [tk k k0 k1]; exact gp k k0 k1 k4 k9 k10
  · rw [t0, t1, s1, show (z σ p 0 + 1).toNat = (z σ p 0).toNat + 1 by omega]
    show sm (up (z σ (p + 1)) (z σ p 0).toNat x3) (z σ p 0).toNat + up (z σ (p + 1)) (z σ p 0).toNat x3 (z σ p 0).toNat = _
    rw [sm_up _ (Nat.le_refl _), up_s, b2.1]
  · unfold WD; rw [o (p + 3) (by omega) (by omega)]; exact b2.2
theorem d_addVariable {K : Int → q_H → Prop} {x1 : Int64} {x3 : Int} (hp : p = 16 ∨ p = 29) (hx : DX T p σ0 σ) (h3 : 1 ≤ x3 ∧ x3 ≤ 8) (kk : ∀ v τ, (v = 0 ∨ v = 1) → DX T p σ0 τ → K v τ) : J ω m_Pr_addVariable d 0 0 0 0 0 [(0, .ref p), (1, .long x1), (3, .int (zI x3))] [] σ (q_ki K) := by
  obtain ⟨hb, f, g2, gp, b1, b2⟩ := id hx
  obtain ⟨⟨hE, r0, r1⟩, c, ⟨w1, w2, w3, w4⟩, e1, i1⟩ := id hb
  refine b_Pr_addVariable_0 hp hE ⟨fun c12 => ⟨⟨by omega, by omega⟩, 1, ⟨by decide, by decide⟩, rfl, kk 1 _ (Or.inr rfl) ?_⟩, fun _ => ⟨0, ⟨by decide, by decide⟩, rfl, kk 0 σ (Or.inl rfl) hx⟩⟩
  have o : ∀ a, a ≠ p → a ≠ p + 3 → z (zs (zs (zt σ (p + 4) (z σ p 4).toNat x1) (p + 3) (z σ p 4).toNat x3) p 4 (z σ p 4 + 1)) a = z σ a := fun a h g => by rw [z_oF h, z_oF g]; rfl
  have s : ∀ j, z (zs (zs (zt σ (p + 4) (z σ p 4).toNat x1) (p + 3) (z σ p 4).toNat x3) p 4 (z σ p 4 + 1)) p j = if j = 4 then z σ p 4 + 1 else z σ p j := fun j => by
    rw [z_if ⟨by omega, by omega⟩, z_o (by omega), z_t]; simp
  have s3 : z (zs (zs (zt σ (p + 4) (z σ p 4).toNat x1) (p + 3) (z σ p 4).toNat x3) p 4 (z σ p 4 + 1)) (p + 3) = up (z σ (p + 3)) (z σ p 4).toNat x3 := by
    rw [z_oF (by omega), z_up ⟨by omega, by omega⟩]; rfl
  have l6 : q_l (zs (zs (zt σ (p + 4) (z σ p 4).toNat x1) (p + 3) (z σ p 4).toNat x3) p 4 (z σ p 4 + 1)) 6 = q_l σ 6 := q_row_n _ _ (by omega)
  have fr2 : fr [2, p, p + 1, p + 2, p + 3, p + 4] σ0 (zs (zs (zt σ (p + 4) (z σ p 4).toNat x1) (p + 3) (z σ p 4).toNat x3) p 4 (z σ p 4 + 1)) := fr_s (fr_s (fr_t f (by simp)) (by simp)) (by simp)
  have rr : q_r (zs (zs (zt σ (p + 4) (z σ p 4).toNat x1) (p + 3) (z σ p 4).toNat x3) p 4 (z σ p 4 + 1)) = q_r σ := rfl
  have E2 : q_E (zs (zs (zt σ (p + 4) (z σ p 4).toNat x1) (p + 3) (z σ p 4).toNat x3) p 4 (z σ p 4 + 1)) := zs_E (zs_E (zt_E hE))
  generalize zs (zs (zt σ (p + 4) (z σ p 4).toNat x1) (p + 3) (z σ p 4).toNat x3) p 4 (z σ p 4 + 1) = π at *
  have t4 : z π p 4 = z σ p 4 + 1 := by rw [s]; rfl
  have tk : ∀ k, k ≠ 4 → z π p k = z σ p k := fun k h => by rw [s, if_neg h]
  have e2 := o 2 (by omega) (by omega)
  refine ⟨⟨⟨E2, by rw [rr]; exact r0, by rw [rr]; exact r1⟩, ?_, ⟨?_, by omega, ?_, ?_⟩, ?_, ?_⟩, fr2, ?_, ?_, ?_, ?_⟩
  · unfold KT; rw [e2, o 4 (by omega) (by omega), l6]; exact c
  · rw [tk 0 (by decide)]; exact w1
  · intro i; rw [tk 0 (by decide), o (p + 1) (by omega) (by omega)]; exact w3 i
  · intro i hi
    rw [s3]
    unfold up
    split
    · exact h3
    · exact w4 i (by omega)
  · rw [e2]; exact e1
  · rw [tk 17 (by decide)]; unfold IT; rw [o (p + 10) (by omega) (by omega), o (p + 11) (by omega) (by omega), o (p + 12) (by omega) (by omega)]; exact i1
  · rw [e2]; exact g2
  · intro k k0 k1 k4 k9 k10; rw [tk k k4]; exact gp k k0 k1 k4 k9 k10
  · rw [tk 0 (by decide), tk 1 (by decide)]; exact b1
  · rw [tk 0 (by decide), tk 1 (by decide), o (p + 1) (by omega) (by omega)]
    refine ⟨b2.1, fun i hi => ?_⟩
    rw [s3]
    unfold up
    split
    · omega
    · exact b2.2 i hi
theorem d_declaration {K : Int → q_H → Prop} (hd : 2 ≤ d) (hp : p = 16 ∨ p = 29) (hx : DX T p σ0 σ) (kk : ∀ v τ, (v = 0 ∨ v = 1) → DX T p σ0 τ → K v τ) : J ω m_Pa_declaration d 0 0 0 0 0 [(0, .ref 8)] [] σ (q_ki K) := by
  obtain ⟨d, rfl⟩ : ∃ k, d = k + 1 := ⟨d - 1, by omega⟩
  have zero : ∀ τ, DX T p σ0 τ → q_ki K (.inl (some (.int (zI 0)))) τ := fun τ ht => ⟨0, ⟨by decide, by decide⟩, rfl, kk 0 τ (Or.inl rfl) ht⟩
  have one : ∀ τ, DX T p σ0 τ → q_ki K (.inl (some (.int (zI 1)))) τ := fun τ ht => ⟨1, ⟨by decide, by decide⟩, rfl, kk 1 τ (Or.inr rfl) ht⟩
  have g138 : ∀ (x6 : Int) τ, DX T p σ0 τ → J ω m_Pa_declaration (d + 1) 0 0 0 0 138 [(0, .ref 8), (6, .int (zI x6))] [] τ (q_ki K) := by
    intro x6 τ ht
    have nx : ∀ π, DX T p σ0 π → J ω m_Pa_declaration (d + 1) 0 0 0 0 148 [] [] π (q_ki K) := fun π hπ => by
      obtain ⟨⟨⟨hE2, r02, r12⟩, -⟩, -⟩ := id hπ
      exact b_Pa_declaration_148 hp r02 r12 hE2 (one π hπ)
    obtain ⟨⟨⟨hE, r0, r1⟩, -⟩, -⟩ := id ht
    exact b_Pa_declaration_138 hp r0 r1 hE (x_note hp hE (nx τ ht) (nx _ (DX_note hp ht)))
  have g195 : ∀ π, DX T p σ0 π → J ω m_Pa_declaration (d + 1) 0 0 0 0 195 [] [] π (q_ki K) := fun π hπ => by
    obtain ⟨⟨⟨hE2, r02, r12⟩, -⟩, -⟩ := id hπ
    exact b_Pa_declaration_195 hp r02 r12 hE2 (one π hπ)
  have g108 : ∀ (x1 : Int) (x2 : Int64) (x4 x5 x6 y0 : Int) τ, DX T p σ0 τ → (x1 = 0 ∨ x1 = 1) → inR x5 → inR y0 → J ω m_Pa_declaration (d + 1) 0 0 0 0 108 [(0, .ref 8), (1, .int (zI x1)), (2, .long x2), (4, .int (zI x4)), (5, .int (zI x5)), (6, .int (zI x6))] [.int (zI y0)] τ (q_ki K) := by
    intro x1 x2 x4 x5 x6 y0 τ ht e1 i5 iy
    obtain ⟨⟨⟨hE, r0, r1⟩, -⟩, -⟩ := id ht
    refine b_Pa_declaration_108 hp r0 r1 hE ⟨iy, fun _ => ⟨i5, fun _ => g138 x6 τ ht, fun c1 => ⟨fun c8 => ⟨⟨by omega, by omega⟩, fun _ => d_addVariable hp ht ⟨c1, c8⟩ (fun v π hv hπ => ?_), fun _ => d_addInput hp ht ⟨c1, c8⟩ (fun v π hv hπ => ?_)⟩, fun _ => g138 x6 τ ht⟩⟩, fun _ => ?_⟩
    · obtain ⟨⟨⟨hE2, r02, r12⟩, -⟩, -⟩ := id hπ
      exact b_Pa_declaration_181 hp r02 r12 hE2 ⟨⟨by omega, by omega⟩, fun _ => one π hπ, fun _ => x_note hp hE2 (g195 π hπ) (g195 _ (DX_note hp hπ))⟩
    · obtain ⟨⟨⟨hE2, r02, r12⟩, -⟩, -⟩ := id hπ
      exact b_Pa_declaration_165 hp r02 r12 hE2 ⟨⟨by omega, by omega⟩, fun _ => x_note hp hE2 (g195 π hπ) (g195 _ (DX_note hp hπ)), fun _ => one π hπ⟩
    · have nx : ∀ π, DX T p σ0 π → J ω m_Pa_declaration (d + 1) 0 0 0 0 122 [] [] π (q_ki K) := fun π hπ => by
        obtain ⟨⟨⟨hE2, r02, r12⟩, -⟩, -⟩ := id hπ
        exact b_Pa_declaration_122 hp r02 r12 hE2 (one π hπ)
      exact x_note hp hE (nx τ ht) (nx _ (DX_note hp ht))
  have g17 : ∀ y0 : Int, (y0 = 0 ∨ y0 = 1) → J ω m_Pa_declaration (d + 1) 0 0 0 0 17 [(0, .ref 8)] [.int (zI y0)] σ (q_ki K) := by
    intro y0 hy
    obtain ⟨⟨⟨hE, r0, r1⟩, -⟩, -⟩ := id hx
    refine b_Pa_declaration_17 hp r0 r1 hE (d_adv hp hx (fun τ1 h1 => ?_))
    have hc1 := DX_c h1
    obtain ⟨⟨⟨E1, r01, r11⟩, -⟩, -⟩ := id h1
    refine b_Pa_declaration_25 hp r01 r11 E1 ⟨⟨by omega, by omega⟩, d_accept (by omega) hp h1 ⟨by decide, by decide⟩ (b_Pa_declaration_48 hp r01 r11 E1 ⟨⟨by decide, by decide⟩, fun _ => zero τ1 h1, fun c => absurd rfl c⟩) (fun _ τ2 h2 => ?_)⟩
    obtain ⟨⟨⟨E2, r02, r12⟩, -⟩, -⟩ := id h2
    refine b_Pa_declaration_48 hp r02 r12 E2 ⟨⟨by decide, by decide⟩, fun c => absurd c (by decide), fun _ => d_accept (by omega) hp h2 ⟨by decide, by decide⟩ (b_Pa_declaration_57 hp r02 r12 E2 ⟨⟨by decide, by decide⟩, fun c => absurd rfl c, fun _ => zero τ2 h2⟩) (fun _ τ3 h3 => ?_)⟩
    have hc3 := DX_c h3
    obtain ⟨⟨⟨E3, r03, r13⟩, -⟩, -⟩ := id h3
    refine b_Pa_declaration_57 hp r03 r13 E3 ⟨⟨by decide, by decide⟩, fun _ => ⟨⟨by omega, by omega⟩, d_accept (by omega) hp h3 ⟨by decide, by decide⟩ (b_Pa_declaration_86 hp r03 r13 E3 ⟨⟨by decide, by decide⟩, fun _ => zero τ3 h3, fun c => absurd rfl c⟩) (fun _ τ4 h4 => ?_)⟩, fun c => absurd c (by decide)⟩
    obtain ⟨⟨⟨E4, r04, r14⟩, -⟩, -⟩ := id h4
    refine b_Pa_declaration_86 hp r04 r14 E4 ⟨⟨by decide, by decide⟩, fun c => absurd c (by decide), fun _ => d_accept (by omega) hp h4 ⟨by decide, by decide⟩ (b_Pa_declaration_95 hp r04 r14 E4 ⟨⟨by decide, by decide⟩, fun c => absurd rfl c, fun _ => zero τ4 h4⟩) (fun _ τ5 h5 => ?_)⟩
    obtain ⟨⟨⟨E5, r05, r15⟩, -, w5, -⟩, -⟩ := id h5
    have w51 := w5.1
    have w52 := w5.2.1
    refine b_Pa_declaration_95 hp r05 r15 E5 ⟨⟨by decide, by decide⟩, fun _ => x_find hp E5 w5 (fun v hv => g108 y0 _ _ _ _ v τ5 h5 hy (inR_of _) ⟨by omega, by omega⟩), fun c => absurd c (by decide)⟩
  have hc := DX_c hx
  obtain ⟨⟨⟨hE, r0, r1⟩, -⟩, -⟩ := id hx
  exact b_Pa_declaration_0 hp r0 r1 hE ⟨⟨by omega, by omega⟩, fun _ => g17 0 (Or.inl rfl), fun _ => g17 1 (Or.inr rfl)⟩
theorem d_declarations {K : Int → q_H → Prop} (hd : 3 ≤ d) (hp : p = 16 ∨ p = 29) (hx : DX T p σ0 σ) (kk : ∀ v τ, (v = 0 ∨ v = 1) → DX T p σ0 τ → K v τ) : J ω m_Pa_declarations d 0 0 0 0 0 [(0, .ref 8)] [] σ (q_ki K) := by
  obtain ⟨d, rfl⟩ : ∃ k, d = k + 1 := ⟨d - 1, by omega⟩
  have l : ∀ (k i : Nat) (x1 : Int) σ, 4096 ≤ i + k → i ≤ 4096 → (x1 = 0 ∨ x1 = 1) → DX T p σ0 σ → J ω m_Pa_declarations (d + 1) 0 0 0 0 4 [(0, .ref 8), (1, .int (zI x1)), (2, .int (zI (i : Int)))] [] σ (q_ki K) := by
    intro k
    induction k with
    | zero =>
      intro i x1 σ hi h1 e1 hx
      obtain ⟨⟨⟨hE, r0, r1⟩, -⟩, -⟩ := id hx
      exact b_Pa_declarations_4 hp r0 r1 hE ⟨⟨by omega, by omega⟩, fun _ => ⟨e1, x1, ⟨by omega, by omega⟩, rfl, kk x1 σ e1 hx⟩, fun c => absurd c (by omega)⟩
    | succ k ih =>
      intro i x1 σ hi h1 e1 hx
      have hc := DX_c hx
      obtain ⟨⟨⟨hE, r0, r1⟩, -⟩, -⟩ := id hx
      have nx : i < 4096 → ∀ v τ, (v = 0 ∨ v = 1) → DX T p σ0 τ → J ω m_Pa_declarations (d + 1) 0 0 0 0 45 [(0, .ref 8), (2, .int (zI (i : Int)))] [.int (zI v)] τ (q_ki K) := fun hi2 v τ hv ht => by
        obtain ⟨⟨⟨hE2, r02, r12⟩, -⟩, -⟩ := id ht
        exact b_Pa_declarations_45 hp r02 r12 hE2 (ih (i + 1) v τ (by omega) (by omega) hv ht)
      exact b_Pa_declarations_4 hp r0 r1 hE ⟨⟨by omega, by omega⟩, fun _ => ⟨e1, x1, ⟨by omega, by omega⟩, rfl, kk x1 σ e1 hx⟩, fun ci => ⟨⟨by omega, by omega⟩, fun _ => ⟨e1, x1, ⟨by omega, by omega⟩, rfl, kk x1 σ e1 hx⟩, fun _ => ⟨⟨by omega, by omega⟩, fun _ => d_declaration (by omega) hp hx (nx (by omega)), fun _ => ⟨fun _ => d_declaration (by omega) hp hx (nx (by omega)), fun _ => ⟨1, ⟨by decide, by decide⟩, rfl, kk 1 σ (Or.inr rfl) hx⟩⟩⟩⟩⟩
  obtain ⟨⟨⟨hE, r0, r1⟩, -⟩, -⟩ := id hx
  exact b_Pa_declarations_0 hp r0 r1 hE (l 4096 0 1 σ (by decide) (by decide) (by decide) hx)
/-- from DECLARATIONS to STATEMENTS -/
theorem PX_0 (hp : p = 16 ∨ p = 29) (ks : KS T σ) (hb : BX T p σ) (h7 : z σ 8 7 = 0) (h8 : z σ 8 8 = 0) (a7 : z σ p 7 = 0) (a8 : z σ p 8 = 0) (a11 : z σ p 11 = 0) : PX T p σ σ 0 0 := by
  have e1 := hb.2.2.2.1
  have k := KS_le ks 0 (z σ 2 8).toNat (by omega) (by omega)
  have k0 := ks.2.1
  refine ⟨hb, fr_refl, fun _ _ => rfl, fun _ _ _ _ _ _ _ => rfl, ⟨h7, by decide, h8⟩, a11, by omega, fun j hj => absurd hj (Nat.not_lt_zero _), rfl, fun i hi => absurd hi (Nat.not_lt_zero _), ?_, ?_⟩
  · show 5 * (((0 : Nat) : Int) + 0) ≤ _
    omega
  · rw [a7]; exact ⟨by omega, Or.inl rfl⟩
end DeP
