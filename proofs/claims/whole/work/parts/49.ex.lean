/-! THE PARSER, safety: what an EXPR's reading keeps -/
def IT (σ : q_H) (p i : Nat) : Prop := 1 ≤ z σ (p + 10) i ∧ z σ (p + 10) i ≤ 25 ∧ (24 ≤ z σ (p + 10) i → 0 ≤ z σ (p + 11) i ∧ z σ (p + 11) i < 12) ∧ 1 ≤ z σ (p + 12) i ∧ z σ (p + 12) i ≤ 8
def KT (T : Nat) (σ : q_H) : Prop := T ≤ 4096 ∧ z σ 2 4 = (T : Int) + 1 ∧ ∀ i, i ≤ T → 1 ≤ z σ 4 i ∧ z σ 4 i ≤ 47 ∧ (z σ 4 i = 46 ↔ i = T) ∧ (z σ 4 i = 23 → 0 ≤ zL (q_l σ 6 i) ∧ zL (q_l σ 6 i) ≤ 255)
def PW (p : Nat) (σ : q_H) : Prop := (0 ≤ z σ p 0 ∧ z σ p 0 ≤ 12) ∧ (0 ≤ z σ p 4 ∧ z σ p 4 ≤ 12) ∧ (∀ i : Nat, (i : Int) < z σ p 0 → 1 ≤ z σ (p + 1) i ∧ z σ (p + 1) i ≤ 8) ∧ (∀ i : Nat, (i : Int) < z σ p 4 → 1 ≤ z σ (p + 3) i ∧ z σ (p + 3) i ≤ 8)
/-- the first item of all is an operand -/
def EO (p : Nat) (σ : q_H) : Prop := (0 < z σ 8 12 → 0 < z σ p 17) ∧ (0 < z σ p 17 → 23 ≤ z σ (p + 10) 0)
def EX (T p : Nat) (σ0 σ : q_H) : Prop :=
  (q_E σ ∧ q_r σ 8 0 = 2 ∧ q_r σ 8 1 = p) ∧ fr [2, 8, 14, 15, p, p + 10, p + 11, p + 12] σ0 σ ∧ KT T σ ∧ PW p σ ∧
  (∀ k, k ≠ 8 → z σ 2 k = z σ0 2 k) ∧ (0 ≤ z σ0 2 8 ∧ z σ0 2 8 ≤ z σ 2 8 ∧ z σ 2 8 ≤ T) ∧ (∀ k, k ≠ 9 → k ≠ 10 → k ≠ 17 → z σ p k = z σ0 p k) ∧ (∀ k, k < 10 → z σ 8 k = z σ0 8 k) ∧
  (0 ≤ z σ 8 10 ∧ z σ 8 10 ≤ 400 ∧ ∀ i : Nat, (i : Int) < z σ 8 10 → 1 ≤ z σ 14 i ∧ z σ 14 i ≤ 47) ∧
  (0 ≤ z σ 8 12 ∧ z σ 8 12 ≤ 400 ∧ ∀ i : Nat, (i : Int) < z σ 8 12 → 1 ≤ z σ 15 i ∧ z σ 15 i ≤ 8) ∧
  (0 ≤ z σ0 p 17 ∧ z σ0 p 17 ≤ z σ p 17 ∧ z σ p 17 ≤ 4096 ∧ ∀ i : Nat, (i : Int) < z σ p 17 → IT σ p i) ∧ (0 ≤ z σ 8 14 ∧ z σ 8 14 ≤ 1501) ∧ EO p σ
section ExS
variable {T p : Nat} {σ0 σ : q_H}
theorem EX_8 {k : Nat} {e : Int} (hp : p = 16 ∨ p = 29) (h : EX T p σ0 σ) (hk : 10 ≤ k) (he : inR e) (c10 : k = 10 → 0 ≤ e ∧ e ≤ z σ 8 10) (c12 : k = 12 → 0 ≤ e ∧ e ≤ z σ 8 12) (c14 : k = 14 → 0 ≤ e ∧ e ≤ 1501) : EX T p σ0 (zs σ 8 k e) := by
  obtain ⟨⟨a1, a2, a3⟩, b, ⟨c1, c2, c3⟩, ⟨w1, w2, w3, w4⟩, d, e1, f1, g1, ⟨s1, s2, s3⟩, ⟨t1, t2, t3⟩, ⟨i1, i2, i3, i4⟩, k1⟩ := h
  have o : ∀ a j, a ≠ 8 → z (zs σ 8 k e) a j = z σ a j := fun a j h => z_o h
  have s : ∀ j, z (zs σ 8 k e) 8 j = if j = k then e else z σ 8 j := fun j => by
    rw [z_zs]; simp only [true_and, zI_toInt he]
  have hp8 : p ≠ 8 := by omega
  refine ⟨⟨zs_E a1, a2, a3⟩, fr_s b (by simp), ⟨c1, ?_, ?_⟩, ⟨?_, ?_, ?_, ?_⟩, ?_, ?_, ?_, ?_, ⟨?_, ?_, ?_⟩, ⟨?_, ?_, ?_⟩, ⟨i1, ?_, ?_, ?_⟩, ?_⟩
  · rw [o 2 _ (by decide)]; exact c2
  · intro i hi; rw [o 4 _ (by decide)]; exact c3 i hi
  · rw [o p _ hp8]; exact w1
  · rw [o p _ hp8]; exact w2
  · intro i; rw [o p _ hp8, o (p + 1) _ (by omega)]; exact w3 i
  · intro i; rw [o p _ hp8, o (p + 3) _ (by omega)]; exact w4 i
  · intro j; rw [o 2 _ (by decide)]; exact d j
  · rw [o 2 _ (by decide)]; exact e1
  · intro j; rw [o p _ hp8]; exact f1 j
  · intro j hj; rw [s, if_neg (by omega)]; exact g1 j hj
  · rw [s]; split
    · next c => exact (c10 c.symm).1
    · exact s1
  · rw [s]; split
    · next c => have := (c10 c.symm).2; omega
    · exact s2
  · intro i hi; rw [o 14 _ (by decide)]; rw [s] at hi; split at hi
    · next c => have := (c10 c.symm).2; exact s3 i (by omega)
    · exact s3 i hi
  · rw [s]; split
    · next c => exact (c12 c.symm).1
    · exact t1
  · rw [s]; split
    · next c => have := (c12 c.symm).2; omega
    · exact t2
  · intro i hi; rw [o 15 _ (by decide)]; rw [s] at hi; split at hi
    · next c => have := (c12 c.symm).2; exact t3 i (by omega)
    · exact t3 i hi
  · rw [o p _ hp8]; exact i2
  · rw [o p _ hp8]; exact i3
  · intro i; unfold IT; rw [o p _ hp8, o (p + 10) _ (by omega), o (p + 11) _ (by omega), o (p + 12) _ (by omega)]; exact i4 i
  · refine ⟨?_, ?_, ?_⟩
    · rw [s]; split
      · next c => exact c14 c.symm
      · exact k1.1
    · rw [s, o p _ hp8]; split
      · next c => intro h0; have := (c12 c.symm).2; exact k1.2.1 (by omega)
      · exact k1.2.1
    · rw [o p _ hp8, o (p + 10) _ (by omega)]; exact k1.2.2
theorem EX_28 (hp : p = 16 ∨ p = 29) (h : EX T p σ0 σ) (hk : z σ 2 8 < T) : EX T p σ0 (zs σ 2 8 (z σ 2 8 + 1)) := by
  obtain ⟨⟨a1, a2, a3⟩, b, ⟨c1, c2, c3⟩, ⟨w1, w2, w3, w4⟩, d, e1, f1, g1, s1, t1, i1, k1⟩ := h
  have o : ∀ a j, a ≠ 2 → z (zs σ 2 8 (z σ 2 8 + 1)) a j = z σ a j := fun a j h => z_o h
  have hp8 : p ≠ 2 := by omega
  refine ⟨⟨zs_E a1, a2, a3⟩, fr_s b (by simp), ⟨c1, ?_, ?_⟩, ⟨?_, ?_, ?_, ?_⟩, ?_, ?_, ?_, ?_, ?_, ?_, ?_, ?_⟩
  · rw [z_k (by decide)]; exact c2
  · intro i hi; rw [o 4 _ (by decide)]; exact c3 i hi
  · rw [o p _ hp8]; exact w1
  · rw [o p _ hp8]; exact w2
  · intro i; rw [o p _ hp8, o (p + 1) _ (by omega)]; exact w3 i
  · intro i; rw [o p _ hp8, o (p + 3) _ (by omega)]; exact w4 i
  · intro j hj; rw [z_k hj]; exact d j hj
  · rw [z_s ⟨by omega, by omega⟩]; omega
  · intro j; rw [o p _ hp8]; exact f1 j
  · intro j hj; rw [o 8 _ (by decide)]; exact g1 j hj
  · rw [o 8 _ (by decide)]; refine ⟨s1.1, s1.2.1, fun i => ?_⟩; rw [o 14 _ (by decide)]; exact s1.2.2 i
  · rw [o 8 _ (by decide)]; refine ⟨t1.1, t1.2.1, fun i => ?_⟩; rw [o 15 _ (by decide)]; exact t1.2.2 i
  · rw [o p _ hp8]; refine ⟨i1.1, i1.2.1, i1.2.2.1, fun i => ?_⟩; unfold IT; rw [o (p + 10) _ (by omega), o (p + 11) _ (by omega), o (p + 12) _ (by omega)]; exact i1.2.2.2 i
  · refine ⟨by rw [o 8 _ (by decide)]; exact k1.1, ?_, ?_⟩
    · rw [o 8 _ (by decide), o p _ hp8]; exact k1.2.1
    · rw [o p _ hp8, o (p + 10) _ (by omega)]; exact k1.2.2
/-- a sign is put down -/
theorem EX_14 {i : Nat} {x : Int} (hp : p = 16 ∨ p = 29) (h : EX T p σ0 σ) (hx : 1 ≤ x ∧ x ≤ 47) : EX T p σ0 (zs σ 14 i x) := by
  obtain ⟨⟨a1, a2, a3⟩, b, ⟨c1, c2, c3⟩, ⟨w1, w2, w3, w4⟩, d, e1, f1, g1, s1, t1, i1, k1⟩ := h
  have o : ∀ a j, a ≠ 14 → z (zs σ 14 i x) a j = z σ a j := fun a j h => z_o h
  have hp8 : p ≠ 14 := by omega
  refine ⟨⟨zs_E a1, a2, a3⟩, fr_s b (by simp), ⟨c1, ?_, ?_⟩, ⟨?_, ?_, ?_, ?_⟩, ?_, ?_, ?_, ?_, ?_, ?_, ?_, ?_⟩
  · rw [o 2 _ (by decide)]; exact c2
  · intro i hi; rw [o 4 _ (by decide)]; exact c3 i hi
  · rw [o p _ hp8]; exact w1
  · rw [o p _ hp8]; exact w2
  · intro i; rw [o p _ hp8, o (p + 1) _ (by omega)]; exact w3 i
  · intro i; rw [o p _ hp8, o (p + 3) _ (by omega)]; exact w4 i
  · intro j hj; rw [o 2 _ (by decide)]; exact d j hj
  · rw [o 2 _ (by decide)]; exact e1
  · intro j; rw [o p _ hp8]; exact f1 j
  · intro j hj; rw [o 8 _ (by decide)]; exact g1 j hj
  · rw [o 8 _ (by decide)]; refine ⟨s1.1, s1.2.1, fun j hj => ?_⟩
    rw [z_if ⟨by omega, by omega⟩]
    split
    · exact hx
    · exact s1.2.2 j hj
  · rw [o 8 _ (by decide)]; refine ⟨t1.1, t1.2.1, fun i => ?_⟩; rw [o 15 _ (by decide)]; exact t1.2.2 i
  · rw [o p _ hp8]; refine ⟨i1.1, i1.2.1, i1.2.2.1, fun i => ?_⟩; unfold IT; rw [o (p + 10) _ (by omega), o (p + 11) _ (by omega), o (p + 12) _ (by omega)]; exact i1.2.2.2 i
  · refine ⟨by rw [o 8 _ (by decide)]; exact k1.1, ?_, ?_⟩
    · rw [o 8 _ (by decide), o p _ hp8]; exact k1.2.1
    · rw [o p _ hp8, o (p + 10) _ (by omega)]; exact k1.2.2
theorem EX_sign {x : Int} (hp : p = 16 ∨ p = 29) (h : EX T p σ0 σ) (hx : 1 ≤ x ∧ x ≤ 47) (hl : z σ 8 10 < 400) : EX T p σ0 (zs (zs σ 14 (z σ 8 10).toNat x) 8 10 (z σ 8 10 + 1)) := by
  have e0 : z (zs σ 14 (z σ 8 10).toNat x) 14 (z σ 8 10).toNat = x := z_s ⟨by omega, by omega⟩
  have e8 : z (zs σ 14 (z σ 8 10).toNat x) 8 10 = z σ 8 10 := z_o (by decide)
  have h2 := EX_14 (i := (z σ 8 10).toNat) hp h hx
  generalize zs σ 14 (z σ 8 10).toNat x = ρ at e0 e8 h2 ⊢
  rw [← e8] at e0 hl ⊢
  obtain ⟨⟨a1, a2, a3⟩, b, ⟨c1, c2, c3⟩, ⟨w1, w2, w3, w4⟩, d, e1, f1, g1, s1, t1, i1, k1⟩ := h2
  have o : ∀ a j, a ≠ 8 → z (zs ρ 8 10 (z ρ 8 10 + 1)) a j = z ρ a j := fun a j h => z_o h
  have hp8 : p ≠ 8 := by omega
  refine ⟨⟨zs_E a1, a2, a3⟩, fr_s b (by simp), ⟨c1, ?_, ?_⟩, ⟨?_, ?_, ?_, ?_⟩, ?_, ?_, ?_, ?_, ?_, ?_, ?_, ?_⟩
  · rw [o 2 _ (by decide)]; exact c2
  · intro i hi; rw [o 4 _ (by decide)]; exact c3 i hi
  · rw [o p _ hp8]; exact w1
  · rw [o p _ hp8]; exact w2
  · intro i; rw [o p _ hp8, o (p + 1) _ (by omega)]; exact w3 i
  · intro i; rw [o p _ hp8, o (p + 3) _ (by omega)]; exact w4 i
  · intro j hj; rw [o 2 _ (by decide)]; exact d j hj
  · rw [o 2 _ (by decide)]; exact e1
  · intro j; rw [o p _ hp8]; exact f1 j
  · intro j hj; rw [z_k (by omega)]; exact g1 j hj
  · rw [z_s ⟨by omega, by omega⟩]; refine ⟨by omega, by omega, fun j hj => ?_⟩
    rw [o 14 _ (by decide)]
    by_cases c : (j : Int) < z ρ 8 10
    · exact s1.2.2 j c
    · rw [show j = (z ρ 8 10).toNat by omega, e0]; exact hx
  · rw [z_k (by decide)]; refine ⟨t1.1, t1.2.1, fun i => ?_⟩; rw [o 15 _ (by decide)]; exact t1.2.2 i
  · rw [o p _ hp8]; refine ⟨i1.1, i1.2.1, i1.2.2.1, fun i => ?_⟩; unfold IT; rw [o (p + 10) _ (by omega), o (p + 11) _ (by omega), o (p + 12) _ (by omega)]; exact i1.2.2.2 i
  · refine ⟨by rw [z_k (by decide)]; exact k1.1, ?_, ?_⟩
    · rw [z_k (by decide), o p _ hp8]; exact k1.2.1
    · rw [o p _ hp8, o (p + 10) _ (by omega)]; exact k1.2.2
theorem EX_note {x y : Int} (hp : p = 16 ∨ p = 29) (h : EX T p σ0 σ) : EX T p σ0 (zs (zs σ p 9 x) p 10 y) := by
  obtain ⟨⟨a1, a2, a3⟩, b, ⟨c1, c2, c3⟩, ⟨w1, w2, w3, w4⟩, d, e1, f1, g1, s1, t1, i1, k1⟩ := h
  have o : ∀ a j, a ≠ p → z (zs (zs σ p 9 x) p 10 y) a j = z σ a j := fun a j h => (z_o h).trans (z_o h)
  have s : ∀ j, j ≠ 9 → j ≠ 10 → z (zs (zs σ p 9 x) p 10 y) p j = z σ p j := fun j h g => (z_k g).trans (z_k h)
  refine ⟨⟨zs_E (zs_E a1), a2, a3⟩, fr_s (fr_s b (by simp)) (by simp), ⟨c1, ?_, ?_⟩, ⟨?_, ?_, ?_, ?_⟩, ?_, ?_, ?_, ?_, ?_, ?_, ?_, ?_⟩
  · rw [o 2 _ (by omega)]; exact c2
  · intro i hi; rw [o 4 _ (by omega)]; exact c3 i hi
  · rw [s _ (by decide) (by decide)]; exact w1
  · rw [s _ (by decide) (by decide)]; exact w2
  · intro i; rw [s _ (by decide) (by decide), o (p + 1) _ (by omega)]; exact w3 i
  · intro i; rw [s _ (by decide) (by decide), o (p + 3) _ (by omega)]; exact w4 i
  · intro j hj; rw [o 2 _ (by omega)]; exact d j hj
  · rw [o 2 _ (by omega)]; exact e1
  · intro j h9 h10 h17; rw [s j h9 h10]; exact f1 j h9 h10 h17
  · intro j hj; rw [o 8 _ (by omega)]; exact g1 j hj
  · rw [o 8 _ (by omega)]; refine ⟨s1.1, s1.2.1, fun j hj => ?_⟩; rw [o 14 _ (by omega)]; exact s1.2.2 j hj
  · rw [o 8 _ (by omega)]; refine ⟨t1.1, t1.2.1, fun i => ?_⟩; rw [o 15 _ (by omega)]; exact t1.2.2 i
  · rw [s _ (by decide) (by decide)]; refine ⟨i1.1, i1.2.1, i1.2.2.1, fun i => ?_⟩; unfold IT; rw [o (p + 10) _ (by omega), o (p + 11) _ (by omega), o (p + 12) _ (by omega)]; exact i1.2.2.2 i
  · refine ⟨by rw [o 8 _ (by omega)]; exact k1.1, ?_, ?_⟩
    · rw [o 8 _ (by omega), s 17 (by decide) (by decide)]; exact k1.2.1
    · rw [s 17 (by decide) (by decide), o (p + 10) _ (by omega)]; exact k1.2.2
theorem EX_push {x1 x2 x3 : Int} (hp : p = 16 ∨ p = 29) (h : EX T p σ0 σ) (hl : z σ 8 12 < 400) (hi : z σ p 17 < 4096) (h1 : 1 ≤ x1 ∧ x1 ≤ 25) (h2 : 24 ≤ x1 → 0 ≤ x2 ∧ x2 < 12) (h3 : 1 ≤ x3 ∧ x3 ≤ 8) (hx2 : inR x2) (h0 : 0 < z σ p 17 ∨ 23 ≤ x1) :
    EX T p σ0 (zs (zs (zs (zs (zs (zs σ 15 (z σ 8 12).toNat x3) 8 12 (z σ 8 12 + 1)) (p + 10) (z σ p 17).toNat x1) (p + 11) (z σ p 17).toNat x2) (p + 12) (z σ p 17).toNat x3) p 17 (z σ p 17 + 1)) := by
  obtain ⟨⟨a1, a2, a3⟩, b, ⟨c1, c2, c3⟩, ⟨w1, w2, w3, w4⟩, d, e1, f1, g1, s1, t1, i1, k1⟩ := h
  have o : ∀ a j, a ≠ 15 → a ≠ 8 → a ≠ p + 10 → a ≠ p + 11 → a ≠ p + 12 → a ≠ p → z (zs (zs (zs (zs (zs (zs σ 15 (z σ 8 12).toNat x3) 8 12 (z σ 8 12 + 1)) (p + 10) (z σ p 17).toNat x1) (p + 11) (z σ p 17).toNat x2) (p + 12) (z σ p 17).toNat x3) p 17 (z σ p 17 + 1)) a j = z σ a j :=
    fun a j h1 h2 h3 h4 h5 h6 => (z_o h6).trans ((z_o h5).trans ((z_o h4).trans ((z_o h3).trans ((z_o h2).trans (z_o h1)))))
  have r15 : ∀ j, z (zs (zs (zs (zs (zs (zs σ 15 (z σ 8 12).toNat x3) 8 12 (z σ 8 12 + 1)) (p + 10) (z σ p 17).toNat x1) (p + 11) (z σ p 17).toNat x2) (p + 12) (z σ p 17).toNat x3) p 17 (z σ p 17 + 1)) 15 j = if j = (z σ 8 12).toNat then x3 else z σ 15 j := fun j => by
    rw [z_o (by omega), z_o (by omega), z_o (by omega), z_o (by omega), z_o (by omega), z_if ⟨by omega, by omega⟩]; simp
  have r8 : ∀ j, z (zs (zs (zs (zs (zs (zs σ 15 (z σ 8 12).toNat x3) 8 12 (z σ 8 12 + 1)) (p + 10) (z σ p 17).toNat x1) (p + 11) (z σ p 17).toNat x2) (p + 12) (z σ p 17).toNat x3) p 17 (z σ p 17 + 1)) 8 j = if j = 12 then z σ 8 12 + 1 else z σ 8 j := fun j => by
    rw [z_o (by omega), z_o (by omega), z_o (by omega), z_o (by omega), z_if ⟨by omega, by omega⟩, z_o (by decide)]; simp
  have rp : ∀ j, z (zs (zs (zs (zs (zs (zs σ 15 (z σ 8 12).toNat x3) 8 12 (z σ 8 12 + 1)) (p + 10) (z σ p 17).toNat x1) (p + 11) (z σ p 17).toNat x2) (p + 12) (z σ p 17).toNat x3) p 17 (z σ p 17 + 1)) p j = if j = 17 then z σ p 17 + 1 else z σ p j := fun j => by
    rw [z_if ⟨by omega, by omega⟩, z_o (by omega), z_o (by omega), z_o (by omega), z_o (by omega), z_o (by omega)]; simp
  have r10 : ∀ j, z (zs (zs (zs (zs (zs (zs σ 15 (z σ 8 12).toNat x3) 8 12 (z σ 8 12 + 1)) (p + 10) (z σ p 17).toNat x1) (p + 11) (z σ p 17).toNat x2) (p + 12) (z σ p 17).toNat x3) p 17 (z σ p 17 + 1)) (p + 10) j = if j = (z σ p 17).toNat then x1 else z σ (p + 10) j := fun j => by
    rw [z_o (by omega), z_o (by omega), z_o (by omega), z_if ⟨by omega, by omega⟩, z_o (by omega), z_o (by omega)]; simp
  have r11 : ∀ j, z (zs (zs (zs (zs (zs (zs σ 15 (z σ 8 12).toNat x3) 8 12 (z σ 8 12 + 1)) (p + 10) (z σ p 17).toNat x1) (p + 11) (z σ p 17).toNat x2) (p + 12) (z σ p 17).toNat x3) p 17 (z σ p 17 + 1)) (p + 11) j = if j = (z σ p 17).toNat then x2 else z σ (p + 11) j := fun j => by
    rw [z_o (by omega), z_o (by omega), z_if hx2, z_o (by omega), z_o (by omega), z_o (by omega)]; simp
  have r12 : ∀ j, z (zs (zs (zs (zs (zs (zs σ 15 (z σ 8 12).toNat x3) 8 12 (z σ 8 12 + 1)) (p + 10) (z σ p 17).toNat x1) (p + 11) (z σ p 17).toNat x2) (p + 12) (z σ p 17).toNat x3) p 17 (z σ p 17 + 1)) (p + 12) j = if j = (z σ p 17).toNat then x3 else z σ (p + 12) j := fun j => by
    rw [z_o (by omega), z_if ⟨by omega, by omega⟩, z_o (by omega), z_o (by omega), z_o (by omega), z_o (by omega)]; simp
  have hfr : fr [2, 8, 14, 15, p, p + 10, p + 11, p + 12] σ0 (zs (zs (zs (zs (zs (zs σ 15 (z σ 8 12).toNat x3) 8 12 (z σ 8 12 + 1)) (p + 10) (z σ p 17).toNat x1) (p + 11) (z σ p 17).toNat x2) (p + 12) (z σ p 17).toNat x3) p 17 (z σ p 17 + 1)) :=
    fr_s (fr_s (fr_s (fr_s (fr_s (fr_s b (by simp)) (by simp)) (by simp)) (by simp)) (by simp)) (by simp)
  have hE : q_E (zs (zs (zs (zs (zs (zs σ 15 (z σ 8 12).toNat x3) 8 12 (z σ 8 12 + 1)) (p + 10) (z σ p 17).toNat x1) (p + 11) (z σ p 17).toNat x2) (p + 12) (z σ p 17).toNat x3) p 17 (z σ p 17 + 1)) := zs_E (zs_E (zs_E (zs_E (zs_E (zs_E a1)))))
  have ha2 : q_r (zs (zs (zs (zs (zs (zs σ 15 (z σ 8 12).toNat x3) 8 12 (z σ 8 12 + 1)) (p + 10) (z σ p 17).toNat x1) (p + 11) (z σ p 17).toNat x2) (p + 12) (z σ p 17).toNat x3) p 17 (z σ p 17 + 1)) = q_r σ := rfl
  have hl6 : q_l (zs (zs (zs (zs (zs (zs σ 15 (z σ 8 12).toNat x3) 8 12 (z σ 8 12 + 1)) (p + 10) (z σ p 17).toNat x1) (p + 11) (z σ p 17).toNat x2) (p + 12) (z σ p 17).toNat x3) p 17 (z σ p 17 + 1)) = q_l σ := rfl
  generalize zs (zs (zs (zs (zs (zs σ 15 (z σ 8 12).toNat x3) 8 12 (z σ 8 12 + 1)) (p + 10) (z σ p 17).toNat x1) (p + 11) (z σ p 17).toNat x2) (p + 12) (z σ p 17).toNat x3) p 17 (z σ p 17 + 1) = ρ at *
  refine ⟨⟨hE, by rw [ha2]; exact a2, by rw [ha2]; exact a3⟩, hfr, ⟨c1, ?_, ?_⟩, ⟨?_, ?_, ?_, ?_⟩, ?_, ?_, ?_, ?_, ?_, ?_, ?_, ?_⟩
  · rw [o 2 _ (by omega) (by omega) (by omega) (by omega) (by omega) (by omega)]; exact c2
  · intro i hi; rw [o 4 _ (by omega) (by omega) (by omega) (by omega) (by omega) (by omega), hl6]; exact c3 i hi
  · rw [rp, if_neg (by decide)]; exact w1
  · rw [rp, if_neg (by decide)]; exact w2
  · intro i; rw [rp, if_neg (by decide), o (p + 1) _ (by omega) (by omega) (by omega) (by omega) (by omega) (by omega)]; exact w3 i
  · intro i; rw [rp, if_neg (by decide), o (p + 3) _ (by omega) (by omega) (by omega) (by omega) (by omega) (by omega)]; exact w4 i
  · intro j hj; rw [o 2 _ (by omega) (by omega) (by omega) (by omega) (by omega) (by omega)]; exact d j hj
  · rw [o 2 _ (by omega) (by omega) (by omega) (by omega) (by omega) (by omega)]; exact e1
  · intro j h9 h10 h17; rw [rp, if_neg h17]; exact f1 j h9 h10 h17
  · intro j hj; rw [r8, if_neg (by omega)]; exact g1 j hj
  · rw [r8, if_neg (by decide)]; refine ⟨s1.1, s1.2.1, fun j hj => ?_⟩; rw [o 14 _ (by omega) (by omega) (by omega) (by omega) (by omega) (by omega)]; exact s1.2.2 j hj
  · rw [r8, if_pos rfl]; refine ⟨by omega, by omega, fun i hi => ?_⟩; rw [r15]; split
    · exact h3
    · exact t1.2.2 i (by omega)
  · rw [rp, if_pos rfl]; refine ⟨i1.1, by omega, by omega, fun i hi => ?_⟩; unfold IT; rw [r10, r11, r12]; split
    · exact ⟨h1.1, h1.2, h2, h3.1, h3.2⟩
    · exact i1.2.2.2 i (by omega)
  · refine ⟨by rw [r8, if_neg (by decide)]; exact k1.1, ?_, ?_⟩
    · rw [rp, if_pos rfl]; intro _; omega
    · intro _
      rw [r10]
      split
      · omega
      · exact k1.2.2 (by omega)
end ExS
