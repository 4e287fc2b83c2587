/-! THE CIRCUIT, what it holds: each gate once, found again; values of its literals -/
def mxd (k a b c : Int) : Int := ((((k * 31) + a) * (-1640531535)) + b) * (-2048144789) + c * 668265263
def spt (k a b c : Int) : Int := zAnd (zXor (mxd k a b c) (zUshr (mxd k a b c) 15)) 8191
def HIv (s : Nat) (K A B C P H U W : Nat → Int) : Prop :=
  (∀ g : Nat, 1 ≤ g → g < s → K g ≠ 0 → P g = spt (K g) (A g) (B g) (C g) ∧ ∀ h : Nat, H g < (h : Int) → h < g → K h ≠ 0 → P h ≠ P g) ∧
  (∀ b : Nat, b < 8192 → ∀ g : Nat, U b < (g : Int) → g < s → K g ≠ 0 → P g ≠ (b : Int)) ∧
  (∀ g h : Nat, 1 ≤ g → g < s → 1 ≤ h → h < s → K g ≠ 0 → K h = K g → A h = A g → B h = B g → C h = C g → h = g) ∧
  (∀ g : Nat, 1 ≤ g → g < s → K g = 0 → ∃ j : Nat, j < 96 ∧ W j = 2 * (g : Int))
section HiV
variable {s : Nat} {K A B C P H U W : Nat → Int}
theorem HIv_gate {k x y w : Int} {p : Nat} (h : HIv s K A B C P H U W) (hk0 : k ≠ 0) (hp : (p : Int) = spt k x y w) (hp2 : p < 8192) (hn : ∀ g : Nat, 1 ≤ g → g < s → K g = k → A g = x → B g = y → C g ≠ w) :
    HIv (s + 1) (up K s k) (up A s x) (up B s y) (up C s w) (up P s p) (up H s (U p)) (up U p s) W := by
  obtain ⟨a, b, c, dd⟩ := h
  refine ⟨fun g h1 h2 h3 => ?_, fun i hi g h1 h2 h3 => ?_, fun g g' h1 h2 h3 h4 h5 h6 h7 h8 h9 => ?_, fun g h1 h2 h3 => ?_⟩
  rotate_right 1
  · by_cases e : g = s
    · rw [e, up_s] at h3; exact absurd h3 hk0
    · rw [up_n e] at h3; exact dd g h1 (by omega) h3
  · by_cases e : g = s
    · subst e
      rw [up_s, up_s, up_s, up_s, up_s, up_s]
      refine ⟨hp, fun g' l1 l2 l3 => ?_⟩
      rw [up_n (by omega)] at l3
      rw [up_n (by omega)]
      exact b p hp2 g' l1 l2 l3
    · rw [up_n e] at h3
      rw [up_n e, up_n e, up_n e, up_n e, up_n e, up_n e]
      obtain ⟨q, r⟩ := a g h1 (by omega) h3
      refine ⟨q, fun g' l1 l2 l3 => ?_⟩
      rw [up_n (by omega)] at l3
      rw [up_n (by omega)]
      exact r g' l1 l2 l3
  · by_cases e : g = s
    · subst e
      rw [up_s]
      by_cases e2 : i = p
      · subst e2
        rw [up_s] at h1
        omega
      · exact fun q => e2 (by omega)
    · rw [up_n e] at h3 ⊢
      by_cases e2 : i = p
      · subst e2
        rw [up_s] at h1
        omega
      · rw [up_n e2] at h1
        exact b i hi g h1 (by omega) h3
  · by_cases e : g = s
    · subst e
      by_cases e' : g' = g
      · exact e'
      · exfalso
        rw [up_s, up_n e'] at h6 h7 h8 h9
        exact hn g' h3 (by omega) h6 h7 h8 h9
    · by_cases e' : g' = s
      · subst e'
        exfalso
        rw [up_s, up_n e] at h6 h7 h8 h9
        exact hn g h1 (by omega) h6.symm h7.symm h8.symm h9.symm
      · rw [up_n e] at h5 h6 h7 h8 h9
        rw [up_n e'] at h6 h7 h8 h9
        exact c g g' h1 (by omega) h3 (by omega) h5 h6 h7 h8 h9
theorem HIv_pop0 (h : HIv (s + 1) K A B C P H U W) : HIv s K A B C P H U W := by
  obtain ⟨a, b, c, dd⟩ := h
  exact ⟨fun g h1 h2 h3 => a g h1 (by omega) h3, fun i hi g h1 h2 h3 => b i hi g h1 (by omega) h3, fun g g' h1 h2 h3 h4 => c g g' h1 (by omega) h3 (by omega), fun g h1 h2 => dd g h1 (by omega)⟩
theorem HIv_pop (h : HIv (s + 1) K A B C P H U W) (hs : 1 ≤ s) (hk : K s ≠ 0) (hP : 0 ≤ P s ∧ P s < 8192) : HIv s K A B C P H (up U (P s).toNat (H s)) W := by
  obtain ⟨a, b, c, dd⟩ := h
  refine ⟨fun g h1 h2 h3 => a g h1 (by omega) h3, fun i hi g h1 h2 h3 => ?_, fun g g' h1 h2 h3 h4 => c g g' h1 (by omega) h3 (by omega), fun g h1 h2 => dd g h1 (by omega)⟩
  by_cases e : i = (P s).toNat
  · rw [e, up_s] at h1
    have := (a s hs (by omega) hk).2 g h1 h2 h3
    rw [e, show (((P s).toNat : Nat) : Int) = P s by omega]
    exact this
  · rw [up_n e] at h1
    exact b i hi g h1 (by omega) h3
end HiV
def HI (s : Nat) (σ : q_H) : Prop := HIv s (z σ 51) (z σ 52) (z σ 53) (z σ 54) (z σ 55) (z σ 56) (z σ 57) (z σ 61)
/-- gate g of the circuit -/
def GQ (s : Nat) (σ : q_H) (k a b c : Int) (g : Nat) : Prop := (1 ≤ g ∧ g < s) ∧ z σ 51 g = k ∧ z σ 52 g = a ∧ z σ 53 g = b ∧ z σ 54 g = c
/-- the circuit has grown, nothing is lost -/
def CX2 (s s' : Nat) (σ τ : q_H) : Prop := CE s s' σ τ ∧ HI s' τ ∧ z τ 50 8 = z σ 50 8 ∧ (s' = s → ∀ o, o ≠ 57 → z τ o = z σ o)
theorem GQ_uq {s : Nat} {σ : q_H} {k a b c : Int} {g h : Nat} (hi : HI s σ) (hk : k ≠ 0) (h1 : GQ s σ k a b c g) (h2 : GQ s σ k a b c h) : h = g := by
  obtain ⟨l1, a1, a2, a3, a4⟩ := h1
  obtain ⟨l2, b1, b2, b3, b4⟩ := h2
  exact hi.2.2.1 g h l1.1 l1.2 l2.1 l2.2 (by rw [a1]; exact hk) (b1.trans a1.symm) (b2.trans a2.symm) (b3.trans a3.symm) (b4.trans a4.symm)
theorem GQ_CE {s s' : Nat} {σ τ : q_H} {k a b c : Int} {g : Nat} (h : GQ s σ k a b c g) (e : CE s s' σ τ) : GQ s' τ k a b c g := by
  obtain ⟨l, a1, a2, a3, a4⟩ := h
  obtain ⟨-, -, ls, k2⟩ := e
  obtain ⟨b1, b2, b3, b4⟩ := k2 g l.2
  exact ⟨⟨l.1, by omega⟩, b1.trans a1, b2.trans a2, b3.trans a3, b4.trans a4⟩
theorem CX2_refl {s : Nat} {σ : q_H} (h : CI s σ) (g : HI s σ) : CX2 s s σ σ := ⟨CE_refl h, g, rfl, fun _ _ _ => rfl⟩
theorem CX2_trans {s s' s'' : Nat} {σ τ ρ : q_H} (h : CX2 s s' σ τ) (g : CX2 s' s'' τ ρ) : CX2 s s'' σ ρ := by
  refine ⟨CE_trans h.1 g.1, g.2.1, g.2.2.1.trans h.2.2.1, fun e o ho => ?_⟩
  have a := h.1.2.2.1
  have b := g.1.2.2.1
  rw [g.2.2.2 (by omega) o ho, h.2.2.2 (by omega) o ho]
section CgJ
variable {ω : q_W} {d s : Nat} {σ : q_H}
theorem k_gate_126 {K : Int → q_H → Prop} {x1 x2 x3 x4 x6 : Int} (hE : q_E σ) (hc : CI s σ) (hi : HI s σ) (hs10 : s < 10240) (hk : 1 ≤ x1 ∧ x1 ≤ 3) (hx : 2 ≤ x2 ∧ x2 < 2 * (s : Int)) (hy : 2 ≤ x3 ∧ x3 < 2 * (s : Int)) (hxy : x2 / 2 ≠ x3 / 2) (hw : x1 = 3 → 2 ≤ x4 ∧ x4 < 2 * (s : Int) ∧ x4 / 2 ≠ x2 / 2 ∧ x4 / 2 ≠ x3 / 2) (hw0 : x1 ≠ 3 → x4 = 0) (h6 : 0 ≤ x6 ∧ x6 < 8192) (h6' : x6 = spt x1 x2 x3 x4) (hn : ∀ g, ¬ GQ s σ x1 x2 x3 x4 g)
    (kk : ∀ τ, CX2 s (s + 1) σ τ → GQ (s + 1) τ x1 x2 x3 x4 s → K (2 * (s : Int)) τ) : J ω m_Ci_gate d 0 0 0 0 126 [(0, .ref 50), (1, .int (zI x1)), (2, .int (zI x2)), (3, .int (zI x3)), (4, .int (zI x4)), (6, .int (zI x6))] [] σ (q_ki K) := by
  obtain ⟨hs, hv⟩ := hc
  have h1 := hv.1
  refine b_Ci_gate_126 hE ?_
  rw [hs, Int.toNat_natCast]
  refine ⟨fun c => ⟨⟨by omega, by omega⟩, h6, _, ⟨by omega, by omega⟩, rfl, ?_⟩, fun c => absurd c (by omega)⟩
  have i4 : inR x4 := by
    by_cases e : x1 = 3
    · have := hw e; exact ⟨by omega, by omega⟩
    · rw [hw0 e]; exact ⟨by decide, by decide⟩
  have i1 : inR x1 := ⟨by omega, by omega⟩
  have i2 : inR x2 := ⟨by omega, by omega⟩
  have i3 : inR x3 := ⟨by omega, by omega⟩
  have i6 : inR x6 := ⟨by omega, by omega⟩
  have is : inR (s : Int) := ⟨by omega, by omega⟩
  have e51 : z (zs (zs (zs (zs (zs (zs (zs (zs σ 51 s x1) 52 s x2) 53 s x3) 54 s x4) 55 s x6) 56 s (z σ 57 x6.toNat)) 57 x6.toNat (s : Int)) 50 7 ((s : Int) + 1)) 51 = up (z σ 51) s x1 := by
    rw [z_oF (by decide), z_oF (by decide), z_oF (by decide), z_oF (by decide), z_oF (by decide), z_oF (by decide), z_oF (by decide), z_up i1]
  have e52 : z (zs (zs (zs (zs (zs (zs (zs (zs σ 51 s x1) 52 s x2) 53 s x3) 54 s x4) 55 s x6) 56 s (z σ 57 x6.toNat)) 57 x6.toNat (s : Int)) 50 7 ((s : Int) + 1)) 52 = up (z σ 52) s x2 := by
    rw [z_oF (by decide), z_oF (by decide), z_oF (by decide), z_oF (by decide), z_oF (by decide), z_oF (by decide), z_up i2, z_oF (by decide)]
  have e53 : z (zs (zs (zs (zs (zs (zs (zs (zs σ 51 s x1) 52 s x2) 53 s x3) 54 s x4) 55 s x6) 56 s (z σ 57 x6.toNat)) 57 x6.toNat (s : Int)) 50 7 ((s : Int) + 1)) 53 = up (z σ 53) s x3 := by
    rw [z_oF (by decide), z_oF (by decide), z_oF (by decide), z_oF (by decide), z_oF (by decide), z_up i3, z_oF (by decide), z_oF (by decide)]
  have e54 : z (zs (zs (zs (zs (zs (zs (zs (zs σ 51 s x1) 52 s x2) 53 s x3) 54 s x4) 55 s x6) 56 s (z σ 57 x6.toNat)) 57 x6.toNat (s : Int)) 50 7 ((s : Int) + 1)) 54 = up (z σ 54) s x4 := by
    rw [z_oF (by decide), z_oF (by decide), z_oF (by decide), z_oF (by decide), z_up i4, z_oF (by decide), z_oF (by decide), z_oF (by decide)]
  have e55 : z (zs (zs (zs (zs (zs (zs (zs (zs σ 51 s x1) 52 s x2) 53 s x3) 54 s x4) 55 s x6) 56 s (z σ 57 x6.toNat)) 57 x6.toNat (s : Int)) 50 7 ((s : Int) + 1)) 55 = up (z σ 55) s x6 := by
    rw [z_oF (by decide), z_oF (by decide), z_oF (by decide), z_up i6, z_oF (by decide), z_oF (by decide), z_oF (by decide), z_oF (by decide)]
  have e56 : z (zs (zs (zs (zs (zs (zs (zs (zs σ 51 s x1) 52 s x2) 53 s x3) 54 s x4) 55 s x6) 56 s (z σ 57 x6.toNat)) 57 x6.toNat (s : Int)) 50 7 ((s : Int) + 1)) 56 = up (z σ 56) s (z σ 57 x6.toNat) := by
    rw [z_oF (by decide), z_oF (by decide), z_up (z_R _ _ _), z_oF (by decide), z_oF (by decide), z_oF (by decide), z_oF (by decide), z_oF (by decide)]
  have e57 : z (zs (zs (zs (zs (zs (zs (zs (zs σ 51 s x1) 52 s x2) 53 s x3) 54 s x4) 55 s x6) 56 s (z σ 57 x6.toNat)) 57 x6.toNat (s : Int)) 50 7 ((s : Int) + 1)) 57 = up (z σ 57) x6.toNat (s : Int) := by
    rw [z_oF (by decide), z_up is, z_oF (by decide), z_oF (by decide), z_oF (by decide), z_oF (by decide), z_oF (by decide), z_oF (by decide)]
  have f : fr [50, 51, 52, 53, 54, 55, 56, 57] σ (zs (zs (zs (zs (zs (zs (zs (zs σ 51 s x1) 52 s x2) 53 s x3) 54 s x4) 55 s x6) 56 s (z σ 57 x6.toNat)) 57 x6.toNat (s : Int)) 50 7 ((s : Int) + 1)) := fr_s (fr_s (fr_s (fr_s (fr_s (fr_s (fr_s (fr_s fr_refl (by simp)) (by simp)) (by simp)) (by simp)) (by simp)) (by simp)) (by simp)) (by simp)
  have e507 : z (zs (zs (zs (zs (zs (zs (zs (zs σ 51 s x1) 52 s x2) 53 s x3) 54 s x4) 55 s x6) 56 s (z σ 57 x6.toNat)) 57 x6.toNat (s : Int)) 50 7 ((s : Int) + 1)) 50 7 = (s : Int) + 1 := z_s ⟨by omega, by omega⟩
  have e508 : z (zs (zs (zs (zs (zs (zs (zs (zs σ 51 s x1) 52 s x2) 53 s x3) 54 s x4) 55 s x6) 56 s (z σ 57 x6.toNat)) 57 x6.toNat (s : Int)) 50 7 ((s : Int) + 1)) 50 8 = z σ 50 8 := by
    rw [z_k (by decide), z_o (by decide), z_o (by decide), z_o (by decide), z_o (by decide), z_o (by decide), z_o (by decide), z_o (by decide)]
  generalize zs (zs (zs (zs (zs (zs (zs (zs σ 51 s x1) 52 s x2) 53 s x3) 54 s x4) 55 s x6) 56 s (z σ 57 x6.toNat)) 57 x6.toNat (s : Int)) 50 7 ((s : Int) + 1) = τ at *
  have p6 : ((x6.toNat : Nat) : Int) = x6 := by omega
  have cv := CIv_gate (k := x1) (x := x2) (y := x3) (w := x4) (p := x6.toNat) hv hs10 hk hx hy hxy hw hw0 (by omega)
  have hv2 := HIv_gate (k := x1) (x := x2) (y := x3) (w := x4) (p := x6.toNat) hi (by omega) (by rw [p6]; exact h6') (by omega) (fun g l1 l2 a b c e => hn g ⟨⟨l1, l2⟩, a, b, c, e⟩)
  rw [p6] at cv hv2
  refine kk τ ⟨⟨f, ⟨by rw [e507]; omega, ?_⟩, by omega, fun g hg => ?_⟩, ?_, e508, fun q => absurd q (by omega)⟩ ⟨⟨h1.1, by omega⟩, ?_, ?_, ?_, ?_⟩
  · rw [e51, e52, e53, e54, e55, e56, e57]; exact cv
  · rw [e51, e52, e53, e54, up_n (by omega), up_n (by omega), up_n (by omega), up_n (by omega)]; exact ⟨rfl, rfl, rfl, rfl⟩
  · unfold HI; rw [e51, e52, e53, e54, e55, e56, e57, fr_zF f (show (61 : Nat) ∉ [50, 51, 52, 53, 54, 55, 56, 57] by decide)]; exact hv2
  · rw [e51, up_s]
  · rw [e52, up_s]
  · rw [e53, up_s]
  · rw [e54, up_s]
/-- a gate: found, or made -/
theorem k_gate {K : Int → q_H → Prop} {x1 x2 x3 x4 : Int} (hE : q_E σ) (hc : CI s σ) (hi : HI s σ) (hs10 : s < 10240) (hk : 1 ≤ x1 ∧ x1 ≤ 3) (hx : 2 ≤ x2 ∧ x2 < 2 * (s : Int)) (hy : 2 ≤ x3 ∧ x3 < 2 * (s : Int)) (hxy : x2 / 2 ≠ x3 / 2) (hw : x1 = 3 → 2 ≤ x4 ∧ x4 < 2 * (s : Int) ∧ x4 / 2 ≠ x2 / 2 ∧ x4 / 2 ≠ x3 / 2) (hw0 : x1 ≠ 3 → x4 = 0)
    (kk : ∀ (g : Nat) τ s', CX2 s s' σ τ → s' ≤ s + 1 → GQ s' τ x1 x2 x3 x4 g → ((∃ h, GQ s σ x1 x2 x3 x4 h) → s' = s ∧ τ = σ) → K (2 * (g : Int)) τ) : J ω m_Ci_gate d 0 0 0 0 0 [(0, .ref 50), (1, .int (zI x1)), (2, .int (zI x2)), (3, .int (zI x3)), (4, .int (zI x4))] [] σ (q_ki K) := by
  have hs1 := hc.2.1
  have i4 : inR x4 := by
    by_cases e : x1 = 3
    · have := hw e; exact ⟨by omega, by omega⟩
    · rw [hw0 e]; exact ⟨by decide, by decide⟩
  have h8 : 0 ≤ spt x1 x2 x3 x4 ∧ spt x1 x2 x3 x4 < 8192 := zAnd_8191 _
  have made : (∀ g, ¬ GQ s σ x1 x2 x3 x4 g) → J ω m_Ci_gate d 0 0 0 0 126 [(0, .ref 50), (1, .int (zI x1)), (2, .int (zI x2)), (3, .int (zI x3)), (4, .int (zI x4)), (6, .int (zI (spt x1 x2 x3 x4)))] [] σ (q_ki K) := fun hn =>
    k_gate_126 hE hc hi hs10 hk hx hy hxy hw hw0 h8 rfl hn (fun τ ht hg => kk s τ (s + 1) ht (Nat.le_refl _) hg (fun ⟨h, q⟩ => absurd q (hn h)))
  have l : ∀ (k i : Nat) (x7 : Int), 10240 ≤ i + k → i ≤ 10240 → (i : Int) + x7 ≤ 10240 → (x7 = 0 ∨ (1 ≤ x7 ∧ x7 < (s : Int) ∧ z σ 51 x7.toNat ≠ 0 ∧ z σ 55 x7.toNat = spt x1 x2 x3 x4)) → (∀ g, GQ s σ x1 x2 x3 x4 g → (g : Int) ≤ x7) → J ω m_Ci_gate d 0 0 0 0 48 [(0, .ref 50), (1, .int (zI x1)), (2, .int (zI x2)), (3, .int (zI x3)), (4, .int (zI x4)), (6, .int (zI (spt x1 x2 x3 x4))), (7, .int (zI x7)), (8, .int (zI (i : Int)))] [] σ (q_ki K) := by
    intro k
    induction k with
    | zero =>
      intro i x7 hi' h1 hix h7 hm
      have x0 : x7 = 0 := by rcases h7 with q | q <;> omega
      exact b_Ci_gate_48 hE ⟨⟨by omega, by omega⟩, fun _ => made (fun g hg => by have := hm g hg; have := hg.1.1; omega), fun c => absurd c (by omega)⟩
    | succ k ih =>
      intro i x7 hi' h1 hix h7 hm
      refine b_Ci_gate_48 hE ⟨⟨by omega, by omega⟩, fun _ => made (fun g hg => by have := hm g hg; have := hg.1.1; rcases h7 with q | q <;> omega), fun ci => ⟨⟨by omega, by omega⟩, fun c0 => made (fun g hg => by have := hm g hg; have := hg.1.1; omega), fun c7 => ?_⟩⟩
      obtain ⟨a1, a2, a3, a4⟩ : 1 ≤ x7 ∧ x7 < (s : Int) ∧ z σ 51 x7.toNat ≠ 0 ∧ z σ 55 x7.toNat = spt x1 x2 x3 x4 := by rcases h7 with q | q; exact absurd q c7; exact q
      have hg := (hc.2.2.2 x7.toNat (by omega) (by omega)).2 a3
      have nx : ¬ GQ s σ x1 x2 x3 x4 x7.toNat → J ω m_Ci_gate d 0 0 0 0 48 [(0, .ref 50), (1, .int (zI x1)), (2, .int (zI x2)), (3, .int (zI x3)), (4, .int (zI x4)), (6, .int (zI (spt x1 x2 x3 x4))), (7, .int (zI (z σ 56 x7.toNat))), (8, .int (zI ((i : Int) + 1)))] [] σ (q_ki K) := by
        intro nq
        obtain ⟨q1, q2, q3, q4, q5, q6, q7, q8⟩ := hg
        refine ih (i + 1) _ (by omega) (by omega) (by omega) ?_ (fun g hg => ?_)
        · by_cases e : z σ 56 x7.toNat = 0
          · exact Or.inl e
          · exact Or.inr ⟨by omega, by omega, (q8 e).1, by rw [(q8 e).2]; exact a4⟩
        · have le := hm g hg
          have ne : g ≠ x7.toNat := fun e => nq (e ▸ hg)
          obtain ⟨gl, g1, g2, g3, g4⟩ := hg
          have k0 : z σ 51 g ≠ 0 := by rw [g1]; omega
          have pg := (hi.1 g gl.1 gl.2 k0).1
          rw [g1, g2, g3, g4] at pg
          apply Decidable.byContradiction
          intro q
          exact (hi.1 x7.toNat (by omega) (by omega) a3).2 g (by omega) (by omega) k0 (by rw [pg, a4])
      refine ⟨⟨by omega, by omega⟩, ⟨by omega, by omega⟩, fun n1 => nx (fun q => n1 q.2.1), fun e1 => ⟨⟨by omega, by omega⟩, fun n1 => nx (fun q => n1 q.2.2.1), fun e2 => ⟨⟨by omega, by omega⟩, fun n1 => nx (fun q => n1 q.2.2.2.1), fun e3 => ⟨i4, fun n1 => nx (fun q => n1 q.2.2.2.2), fun e4 => ⟨_, ⟨by omega, by omega⟩, rfl, ?_⟩⟩⟩⟩⟩
      have := kk x7.toNat σ s (CX2_refl hc hi) (by omega) ⟨⟨by omega, by omega⟩, e1, e2, e3, e4⟩ (fun _ => ⟨rfl, rfl⟩)
      rwa [show ((x7.toNat : Nat) : Int) = x7 by omega] at this
  refine b_Ci_gate_0 hE ⟨h8, l 10240 0 _ (by decide) (by decide) ?_ ?_ (fun g hg => ?_)⟩
  · have := (hc.2.2.1 (spt x1 x2 x3 x4).toNat (by omega)).2.1
    show ((0 : Nat) : Int) + z σ 57 (spt x1 x2 x3 x4).toNat ≤ 10240
    omega
  · show z σ 57 (spt x1 x2 x3 x4).toNat = 0 ∨ _
    obtain ⟨u1, u2, u3⟩ := hc.2.2.1 (spt x1 x2 x3 x4).toNat (by omega)
    by_cases e : z σ 57 (spt x1 x2 x3 x4).toNat = 0
    · exact Or.inl e
    · refine Or.inr ⟨?_, u2, (u3 e).1, ?_⟩
      · show 1 ≤ z σ 57 (spt x1 x2 x3 x4).toNat
        omega
      · have := (u3 e).2
        rw [show (((spt x1 x2 x3 x4).toNat : Nat) : Int) = spt x1 x2 x3 x4 by omega] at this
        exact this
  · show (g : Int) ≤ z σ 57 (spt x1 x2 x3 x4).toNat
    obtain ⟨gl, g1, g2, g3, g4⟩ := hg
    have k0 : z σ 51 g ≠ 0 := by rw [g1]; omega
    have pg := (hi.1 g gl.1 gl.2 k0).1
    rw [g1, g2, g3, g4] at pg
    apply Decidable.byContradiction
    intro q
    exact hi.2.1 (spt x1 x2 x3 x4).toNat (by omega) g (by omega) gl.2 k0 (by rw [pg]; omega)
end CgJ
