/-! THE CIRCUIT, safety: its rows as functions -/
def GTv (K A B C P H : Nat → Int) (g : Nat) : Prop :=
  (0 ≤ K g ∧ K g ≤ 3) ∧ (K g ≠ 0 → (2 ≤ A g ∧ A g < 2 * (g : Int)) ∧ (2 ≤ B g ∧ B g < 2 * (g : Int)) ∧ A g / 2 ≠ B g / 2 ∧ (K g = 3 → 2 ≤ C g ∧ C g < 2 * (g : Int) ∧ C g / 2 ≠ A g / 2 ∧ C g / 2 ≠ B g / 2) ∧ (K g ≠ 3 → C g = 0) ∧
    (0 ≤ H g ∧ H g < (g : Int)) ∧ (0 ≤ P g ∧ P g < 8192) ∧ (H g ≠ 0 → K (H g).toNat ≠ 0 ∧ P (H g).toNat = P g))
def CIv (s : Nat) (K A B C P H U : Nat → Int) : Prop :=
  (1 ≤ s ∧ s ≤ 10240) ∧ (∀ b : Nat, b < 8192 → 0 ≤ U b ∧ U b < (s : Int) ∧ (U b ≠ 0 → K (U b).toNat ≠ 0 ∧ P (U b).toNat = (b : Int))) ∧ (∀ g : Nat, 1 ≤ g → g < s → GTv K A B C P H g)
section CiV
variable {s : Nat} {K A B C P H U : Nat → Int}
theorem CIv_leaf (h : CIv s K A B C P H U) (hs : s < 10240) : CIv (s + 1) (up K s 0) A B C P H U := by
  obtain ⟨a, b, c⟩ := h
  refine ⟨by omega, fun i hi => ?_, fun g h1 h2 => ?_⟩
  · obtain ⟨u1, u2, u3⟩ := b i hi
    exact ⟨u1, by omega, fun k => by rw [up_n (by omega)]; exact u3 k⟩
  · by_cases e : g = s
    · subst e
      unfold GTv
      rw [up_s]
      exact ⟨by decide, fun k => absurd rfl k⟩
    · obtain ⟨g1, g2⟩ := c g h1 (by omega)
      unfold GTv
      rw [up_n e]
      refine ⟨g1, fun k => ?_⟩
      obtain ⟨q1, q2, q3, q4, q5, q6, q7, q8⟩ := g2 k
      exact ⟨q1, q2, q3, q4, q5, q6, q7, fun k2 => by rw [up_n (by omega)]; exact q8 k2⟩
theorem CIv_gate {k x y w : Int} {p : Nat} (h : CIv s K A B C P H U) (hs : s < 10240) (hk : 1 ≤ k ∧ k ≤ 3) (hx : 2 ≤ x ∧ x < 2 * (s : Int)) (hy : 2 ≤ y ∧ y < 2 * (s : Int)) (hxy : x / 2 ≠ y / 2) (hw : k = 3 → 2 ≤ w ∧ w < 2 * (s : Int) ∧ w / 2 ≠ x / 2 ∧ w / 2 ≠ y / 2) (hw0 : k ≠ 3 → w = 0) (hp : p < 8192) :
    CIv (s + 1) (up K s k) (up A s x) (up B s y) (up C s w) (up P s p) (up H s (U p)) (up U p s) := by
  obtain ⟨a, b, c⟩ := h
  refine ⟨by omega, fun i hi => ?_, fun g h1 h2 => ?_⟩
  · by_cases e : i = p
    · subst e
      rw [up_s, Int.toNat_natCast, up_s, up_s]
      exact ⟨by omega, by omega, fun _ => ⟨by omega, rfl⟩⟩
    · rw [up_n e]
      obtain ⟨u1, u2, u3⟩ := b i hi
      exact ⟨u1, by omega, fun k => by rw [up_n (by omega), up_n (by omega)]; exact u3 k⟩
  · by_cases e : g = s
    · subst e
      obtain ⟨u1, u2, u3⟩ := b p hp
      unfold GTv
      rw [up_s, up_s, up_s, up_s, up_s, up_s]
      refine ⟨by omega, fun _ => ⟨hx, hy, hxy, hw, hw0, ⟨u1, u2⟩, by omega, fun k2 => ?_⟩⟩
      rw [up_n (by omega), up_n (by omega)]
      exact u3 k2
    · obtain ⟨g1, g2⟩ := c g h1 (by omega)
      unfold GTv
      rw [up_n e, up_n e, up_n e, up_n e, up_n e, up_n e]
      refine ⟨g1, fun k => ?_⟩
      obtain ⟨q1, q2, q3, q4, q5, q6, q7, q8⟩ := g2 k
      exact ⟨q1, q2, q3, q4, q5, q6, q7, fun k2 => by rw [up_n (by omega), up_n (by omega)]; exact q8 k2⟩
theorem CIv_pop0 (h : CIv (s + 1) K A B C P H U) (hs : 1 ≤ s) (hk : K s = 0) : CIv s K A B C P H U := by
  obtain ⟨a, b, c⟩ := h
  refine ⟨by omega, fun i hi => ?_, fun g h1 h2 => c g h1 (by omega)⟩
  obtain ⟨u1, u2, u3⟩ := b i hi
  refine ⟨u1, ?_, u3⟩
  by_cases e : U i = (s : Int)
  · have := u3 (by omega)
    rw [e, Int.toNat_natCast] at this
    exact absurd hk this.1
  · omega
theorem CIv_pop (h : CIv (s + 1) K A B C P H U) (hs : 1 ≤ s) (hk : K s ≠ 0) : CIv s K A B C P H (up U (P s).toNat (H s)) := by
  obtain ⟨a, b, c⟩ := h
  obtain ⟨g1, g2⟩ := c s hs (by omega)
  obtain ⟨q1, q2, q3, q4, q5, q6, q7, q8⟩ := g2 hk
  refine ⟨by omega, fun i hi => ?_, fun g h1 h2 => c g h1 (by omega)⟩
  by_cases e : i = (P s).toNat
  · rw [e, up_s]
    exact ⟨q6.1, q6.2, fun k => ⟨(q8 k).1, by rw [(q8 k).2]; omega⟩⟩
  · rw [up_n e]
    obtain ⟨u1, u2, u3⟩ := b i hi
    refine ⟨u1, ?_, u3⟩
    by_cases e2 : U i = (s : Int)
    · have := u3 (by omega)
      rw [e2, Int.toNat_natCast] at this
      omega
    · omega
end CiV
def CI (s : Nat) (σ : q_H) : Prop := z σ 50 7 = (s : Int) ∧ CIv s (z σ 51) (z σ 52) (z σ 53) (z σ 54) (z σ 55) (z σ 56) (z σ 57)
/-- the circuit has grown -/
def CE (s s' : Nat) (σ τ : q_H) : Prop := fr [50, 51, 52, 53, 54, 55, 56, 57] σ τ ∧ CI s' τ ∧ s ≤ s' ∧ ∀ g : Nat, g < s → z τ 51 g = z σ 51 g ∧ z τ 52 g = z σ 52 g ∧ z τ 53 g = z σ 53 g ∧ z τ 54 g = z σ 54 g
theorem CE_refl {s : Nat} {σ : q_H} (h : CI s σ) : CE s s σ σ := ⟨fr_refl, h, Nat.le_refl _, fun _ _ => ⟨rfl, rfl, rfl, rfl⟩⟩
theorem CE_trans {s s' s'' : Nat} {σ τ ρ : q_H} (h : CE s s' σ τ) (g : CE s' s'' τ ρ) : CE s s'' σ ρ := by
  obtain ⟨f, -, l, k⟩ := h
  obtain ⟨f2, c2, l2, k2⟩ := g
  refine ⟨fr_trans f f2, c2, by omega, fun i hi => ?_⟩
  obtain ⟨a1, a2, a3, a4⟩ := k i hi
  obtain ⟨b1, b2, b3, b4⟩ := k2 i (by omega)
  exact ⟨b1.trans a1, b2.trans a2, b3.trans a3, b4.trans a4⟩
section CiJ
variable {ω : q_W} {d s : Nat} {σ : q_H}
theorem l_Ci_gate_126 {K : Int → q_H → Prop} {x1 x2 x3 x4 x6 : Int} (hE : q_E σ) (hc : CI s σ) (hk : 1 ≤ x1 ∧ x1 ≤ 3) (hx : 2 ≤ x2 ∧ x2 < 2 * (s : Int)) (hy : 2 ≤ x3 ∧ x3 < 2 * (s : Int)) (hxy : x2 / 2 ≠ x3 / 2) (hw : x1 = 3 → 2 ≤ x4 ∧ x4 < 2 * (s : Int) ∧ x4 / 2 ≠ x2 / 2 ∧ x4 / 2 ≠ x3 / 2) (hw0 : x1 ≠ 3 → x4 = 0) (h6 : 0 ≤ x6 ∧ x6 < 8192)
    (kk : ∀ v τ s', CE s s' σ τ → 0 ≤ v ∧ v < 2 * (s' : Int) → K v τ) : J ω m_Ci_gate d 0 0 0 0 126 [(0, .ref 50), (1, .int (zI x1)), (2, .int (zI x2)), (3, .int (zI x3)), (4, .int (zI x4)), (6, .int (zI x6))] [] σ (q_ki K) := by
  obtain ⟨hs, hv⟩ := hc
  have h1 := hv.1
  refine b_Ci_gate_126 hE ?_
  rw [hs, Int.toNat_natCast]
  refine ⟨fun c => ⟨⟨by omega, by omega⟩, h6, _, ⟨by omega, by omega⟩, rfl, ?_⟩, fun c => ⟨1, ⟨by decide, by decide⟩, rfl, ?_⟩⟩
  · have i4 : inR x4 := by
      by_cases e : x1 = 3
      · have := hw e; exact ⟨by omega, by omega⟩
      · rw [hw0 e]; exact ⟨by decide, by decide⟩
    refine kk _ _ (s + 1) ⟨fr_s (fr_s (fr_s (fr_s (fr_s (fr_s (fr_s (fr_s fr_refl (by simp)) (by simp)) (by simp)) (by simp)) (by simp)) (by simp)) (by simp)) (by simp), ⟨?_, ?_⟩, by omega, fun g hg => ⟨?_, ?_, ?_, ?_⟩⟩ ⟨by omega, by omega⟩
    · rw [z_s ⟨by omega, by omega⟩]; omega
    · have := CIv_gate (k := x1) (x := x2) (y := x3) (w := x4) (p := x6.toNat) hv (by omega) hk hx hy hxy hw hw0 (by omega)
      rw [z_oF (by decide), z_oF (by decide), z_oF (by decide), z_oF (by decide), z_oF (by decide), z_oF (by decide), z_oF (by decide), z_up ⟨by omega, by omega⟩]
      rw [z_oF (by decide), z_oF (by decide), z_oF (by decide), z_oF (by decide), z_oF (by decide), z_oF (by decide), z_up ⟨by omega, by omega⟩, z_oF (by decide)]
      rw [z_oF (by decide), z_oF (by decide), z_oF (by decide), z_oF (by decide), z_oF (by decide), z_up ⟨by omega, by omega⟩, z_oF (by decide), z_oF (by decide)]
      rw [z_oF (by decide), z_oF (by decide), z_oF (by decide), z_oF (by decide), z_up i4, z_oF (by decide), z_oF (by decide), z_oF (by decide)]
      rw [z_oF (by decide), z_oF (by decide), z_oF (by decide), z_up ⟨by omega, by omega⟩, z_oF (by decide), z_oF (by decide), z_oF (by decide), z_oF (by decide)]
      rw [z_oF (by decide), z_oF (by decide), z_up (z_R _ _ _), z_oF (by decide), z_oF (by decide), z_oF (by decide), z_oF (by decide), z_oF (by decide)]
      rw [z_oF (by decide), z_up ⟨by omega, by omega⟩, z_oF (by decide), z_oF (by decide), z_oF (by decide), z_oF (by decide), z_oF (by decide), z_oF (by decide)]
      rw [show ((x6.toNat : Nat) : Int) = x6 by omega] at this
      exact this
    · rw [z_o (by decide), z_o (by decide), z_o (by decide), z_o (by decide), z_o (by decide), z_o (by decide), z_o (by decide), z_k (by omega)]
    · rw [z_o (by decide), z_o (by decide), z_o (by decide), z_o (by decide), z_o (by decide), z_o (by decide), z_k (by omega), z_o (by decide)]
    · rw [z_o (by decide), z_o (by decide), z_o (by decide), z_o (by decide), z_o (by decide), z_k (by omega), z_o (by decide), z_o (by decide)]
    · rw [z_o (by decide), z_o (by decide), z_o (by decide), z_o (by decide), z_k (by omega), z_o (by decide), z_o (by decide), z_o (by decide)]
  · refine kk 1 _ s ⟨fr_s fr_refl (by simp), ⟨?_, ?_⟩, Nat.le_refl _, fun g hg => ⟨z_o (by decide), z_o (by decide), z_o (by decide), z_o (by decide)⟩⟩ ⟨by decide, by omega⟩
    · rw [z_k (by decide)]; exact hs
    · rw [z_oF (by decide), z_oF (by decide), z_oF (by decide), z_oF (by decide), z_oF (by decide), z_oF (by decide), z_oF (by decide)]; exact hv
theorem c_Ci_gate {K : Int → q_H → Prop} {x1 x2 x3 x4 : Int} (hE : q_E σ) (hc : CI s σ) (hk : 1 ≤ x1 ∧ x1 ≤ 3) (hx : 2 ≤ x2 ∧ x2 < 2 * (s : Int)) (hy : 2 ≤ x3 ∧ x3 < 2 * (s : Int)) (hxy : x2 / 2 ≠ x3 / 2) (hw : x1 = 3 → 2 ≤ x4 ∧ x4 < 2 * (s : Int) ∧ x4 / 2 ≠ x2 / 2 ∧ x4 / 2 ≠ x3 / 2) (hw0 : x1 ≠ 3 → x4 = 0)
    (kk : ∀ v τ s', CE s s' σ τ → 0 ≤ v ∧ v < 2 * (s' : Int) → K v τ) : J ω m_Ci_gate d 0 0 0 0 0 [(0, .ref 50), (1, .int (zI x1)), (2, .int (zI x2)), (3, .int (zI x3)), (4, .int (zI x4))] [] σ (q_ki K) := by
  have hs1 := hc.2.1
  have i4 : inR x4 := by
    by_cases e : x1 = 3
    · have := hw e; exact ⟨by omega, by omega⟩
    · rw [hw0 e]; exact ⟨by decide, by decide⟩
  have l : ∀ (x6 : Int), 0 ≤ x6 ∧ x6 < 8192 → ∀ (k i : Nat) (x7 : Int), 10240 ≤ i + k → i ≤ 10240 → (x7 = 0 ∨ (1 ≤ x7 ∧ x7 < (s : Int) ∧ z σ 51 x7.toNat ≠ 0)) → J ω m_Ci_gate d 0 0 0 0 48 [(0, .ref 50), (1, .int (zI x1)), (2, .int (zI x2)), (3, .int (zI x3)), (4, .int (zI x4)), (6, .int (zI x6)), (7, .int (zI x7)), (8, .int (zI (i : Int)))] [] σ (q_ki K) := by
    intro x6 h6 k
    induction k with
    | zero =>
      intro i x7 hi h1 h7
      exact b_Ci_gate_48 hE ⟨⟨by omega, by omega⟩, fun _ => l_Ci_gate_126 hE hc hk hx hy hxy hw hw0 h6 kk, fun c => absurd c (by omega)⟩
    | succ k ih =>
      intro i x7 hi h1 h7
      refine b_Ci_gate_48 hE ⟨⟨by omega, by omega⟩, fun _ => l_Ci_gate_126 hE hc hk hx hy hxy hw hw0 h6 kk, fun ci => ⟨⟨by omega, by omega⟩, fun _ => l_Ci_gate_126 hE hc hk hx hy hxy hw hw0 h6 kk, fun c7 => ?_⟩⟩
      have hg := (hc.2.2.2 x7.toNat (by omega) (by omega)).2 (by omega)
      have nx : J ω m_Ci_gate d 0 0 0 0 48 [(0, .ref 50), (1, .int (zI x1)), (2, .int (zI x2)), (3, .int (zI x3)), (4, .int (zI x4)), (6, .int (zI x6)), (7, .int (zI (z σ 56 x7.toNat))), (8, .int (zI ((i : Int) + 1)))] [] σ (q_ki K) := by
        obtain ⟨q1, q2, q3, q4, q5, q6, q7, q8⟩ := hg
        refine ih (i + 1) _ (by omega) (by omega) ?_
        by_cases e : z σ 56 x7.toNat = 0
        · exact Or.inl e
        · exact Or.inr ⟨by omega, by omega, (q8 e).1⟩
      exact ⟨⟨by omega, by omega⟩, ⟨by omega, by omega⟩, fun _ => nx, fun _ => ⟨⟨by omega, by omega⟩, fun _ => nx, fun _ => ⟨⟨by omega, by omega⟩, fun _ => nx, fun _ => ⟨i4, fun _ => nx, fun _ => ⟨_, ⟨by omega, by omega⟩, rfl, kk _ σ s (CE_refl hc) ⟨by omega, by omega⟩⟩⟩⟩⟩⟩
  refine b_Ci_gate_0 hE ?_
  have h8 := zAnd_8191 (zXor ((((((x1 * 31) + x2) * (-1640531535)) + x3) * (-2048144789)) + (x4 * 668265263)) (zUshr ((((((x1 * 31) + x2) * (-1640531535)) + x3) * (-2048144789)) + (x4 * 668265263)) 15))
  generalize zAnd (zXor ((((((x1 * 31) + x2) * (-1640531535)) + x3) * (-2048144789)) + (x4 * 668265263)) (zUshr ((((((x1 * 31) + x2) * (-1640531535)) + x3) * (-2048144789)) + (x4 * 668265263)) 15)) 8191 = x6 at h8 ⊢
  refine ⟨h8, l x6 h8 10240 0 _ (by decide) (by decide) ?_⟩
  obtain ⟨u1, u2, u3⟩ := hc.2.2.1 x6.toNat (by omega)
  by_cases e : z σ 57 x6.toNat = 0
  · exact Or.inl e
  · exact Or.inr ⟨by omega, u2, (u3 e).1⟩
theorem c_Ci_leaf {K : Int → q_H → Prop} (hE : q_E σ) (hc : CI s σ) (kk : ∀ v τ s', CE s s' σ τ → 0 ≤ v ∧ v < 2 * (s' : Int) → K v τ) : J ω m_Ci_leaf d 0 0 0 0 0 [(0, .ref 50)] [] σ (q_ki K) := by
  obtain ⟨hs, hv⟩ := hc
  have h1 := hv.1
  refine b_Ci_leaf_0 hE ?_
  rw [hs, Int.toNat_natCast]
  refine ⟨fun c => ⟨⟨by omega, by omega⟩, _, ⟨by omega, by omega⟩, rfl, ?_⟩, fun c => ⟨1, ⟨by decide, by decide⟩, rfl, ?_⟩⟩
  · refine kk _ _ (s + 1) ⟨fr_s (fr_s fr_refl (by simp)) (by simp), ⟨?_, ?_⟩, by omega, fun g hg => ⟨?_, ?_, ?_, ?_⟩⟩ ⟨by omega, by omega⟩
    · rw [z_s ⟨by omega, by omega⟩]; omega
    · rw [z_oF (by decide), z_up ⟨by decide, by decide⟩, z_oF (by decide), z_oF (by decide), z_oF (by decide), z_oF (by decide), z_oF (by decide), z_oF (by decide), z_oF (by decide), z_oF (by decide), z_oF (by decide), z_oF (by decide), z_oF (by decide), z_oF (by decide)]
      exact CIv_leaf hv (by omega)
    · rw [z_o (by decide), z_k (by omega)]
    · rw [z_o (by decide), z_o (by decide)]
    · rw [z_o (by decide), z_o (by decide)]
    · rw [z_o (by decide), z_o (by decide)]
  · refine kk 1 _ s ⟨fr_s fr_refl (by simp), ⟨?_, ?_⟩, Nat.le_refl _, fun g hg => ⟨z_o (by decide), z_o (by decide), z_o (by decide), z_o (by decide)⟩⟩ ⟨by decide, by omega⟩
    · rw [z_k (by decide)]; exact hs
    · rw [z_oF (by decide), z_oF (by decide), z_oF (by decide), z_oF (by decide), z_oF (by decide), z_oF (by decide), z_oF (by decide)]; exact hv
/-- a literal of the circuit -/
def lit (s : Nat) (x : Int) : Prop := 0 ≤ x ∧ x < 2 * (s : Int)
theorem c_Ci_and {K : Int → q_H → Prop} {x1 x2 : Int} (hd : 1 ≤ d) (hE : q_E σ) (hc : CI s σ) (h1 : lit s x1) (h2 : lit s x2) (kk : ∀ v τ s', CE s s' σ τ → lit s' v → K v τ) : J ω m_Ci_and d 0 0 0 0 0 [(0, .ref 50), (1, .int (zI x1)), (2, .int (zI x2))] [] σ (q_ki K) := by
  obtain ⟨d, rfl⟩ : ∃ k, d = k + 1 := ⟨d - 1, by omega⟩
  obtain ⟨h10, h11⟩ := h1
  obtain ⟨h20, h21⟩ := h2
  have hs1 := hc.2.1
  have hx := zXor_1 h20 (by omega)
  have ret : ∀ v : Int, lit s v → q_ki K (.inl (some (.int (zI v)))) σ := fun v hv => ⟨v, ⟨by have := hv.1; omega, by have := hv.2; omega⟩, rfl, kk v σ s (CE_refl hc) hv⟩
  refine b_Ci_and_0 hE ⟨⟨by omega, by omega⟩, fun _ => ret 1 ⟨by decide, by omega⟩, fun a1 => ⟨⟨by omega, by omega⟩, fun _ => ret 1 ⟨by decide, by omega⟩, fun a2 => ⟨fun a3 => ⟨fun _ => ret x2 ⟨h20, h21⟩, fun a4 => ⟨fun a5 => ⟨fun a6 => ?_, fun _ => ret x1 ⟨h10, h11⟩⟩, fun _ => ret x2 ⟨h20, h21⟩⟩⟩, fun _ => ret 1 ⟨by decide, by omega⟩⟩⟩⟩
  rw [hx] at a3
  exact c_Ci_gate hE hc ⟨by decide, by decide⟩ ⟨by omega, by omega⟩ ⟨by omega, by omega⟩ (by omega) (fun c => absurd c (by decide)) (fun _ => rfl) (fun v τ s' ht hv => b_Ci_and_52 (fr_E ht.1 hE) ⟨v, ⟨by omega, by have := ht.2.1.2.1; omega⟩, rfl, kk v τ s' ht hv⟩)
theorem lit_x {x : Int} (hs : s ≤ 10240) (h : lit s x) : lit s (zXor x 1) ∧ zXor x 1 = x + 1 - 2 * (x % 2) := by
  obtain ⟨h0, h1⟩ := h
  have := zXor_1 h0 (by omega)
  exact ⟨⟨by omega, by omega⟩, this⟩
theorem c_Ci_or {K : Int → q_H → Prop} {x1 x2 : Int} (hd : 2 ≤ d) (hE : q_E σ) (hc : CI s σ) (h1 : lit s x1) (h2 : lit s x2) (kk : ∀ v τ s', CE s s' σ τ → lit s' v → K v τ) : J ω m_Ci_or d 0 0 0 0 0 [(0, .ref 50), (1, .int (zI x1)), (2, .int (zI x2))] [] σ (q_ki K) := by
  obtain ⟨d, rfl⟩ : ∃ k, d = k + 1 := ⟨d - 1, by omega⟩
  have hs1 := hc.2.1
  refine b_Ci_or_0 hE (c_Ci_and (by omega) hE hc (lit_x hs1.2 h1).1 (lit_x hs1.2 h2).1 (fun v τ s' ht hv => b_Ci_or_10 (fr_E ht.1 hE) ?_))
  have := ht.2.1.2.1
  have hx := lit_x this.2 hv
  exact ⟨_, ⟨by have := hx.1.1; omega, by have := hx.1.2; omega⟩, rfl, kk _ τ s' ht hx.1⟩
theorem c_Ci_xor {K : Int → q_H → Prop} {x1 x2 : Int} (hd : 1 ≤ d) (hE : q_E σ) (hc : CI s σ) (h1 : lit s x1) (h2 : lit s x2) (kk : ∀ v τ s', CE s s' σ τ → lit s' v → K v τ) : J ω m_Ci_xor d 0 0 0 0 0 [(0, .ref 50), (1, .int (zI x1)), (2, .int (zI x2))] [] σ (q_ki K) := by
  obtain ⟨d, rfl⟩ : ∃ k, d = k + 1 := ⟨d - 1, by omega⟩
  obtain ⟨h10, h11⟩ := h1
  obtain ⟨h20, h21⟩ := h2
  have hs1 := hc.2.1
  have e1 := zAnd_m2 h10 (by omega)
  have e2 := zAnd_m2 h20 (by omega)
  have e3 : 0 ≤ zAnd (zXor x1 x2) 1 ∧ zAnd (zXor x1 x2) 1 < 2 := zAnd_lo (x := zXor x1 x2) 1 (by decide)
  have sx : ∀ (t : Nat) (v : Int), t ≤ 10240 → lit t v → lit t (zXor v (zAnd (zXor x1 x2) 1)) := by
    intro t v ht hv
    by_cases e : zAnd (zXor x1 x2) 1 = 0
    · rw [e]
      have hv0 := hv.1
      have hv1 := hv.2
      obtain ⟨n, rfl⟩ := Int.eq_ofNat_of_zero_le hv.1
      have := zXor_n (a := n) (b := 0) (by omega) (by decide)
      rw [show ((0 : Nat) : Int) = 0 from rfl, Nat.xor_zero] at this
      rw [this]; exact hv
    · rw [show zAnd (zXor x1 x2) 1 = 1 by omega]; exact (lit_x ht hv).1
  have l1 : lit s 1 := ⟨by decide, by omega⟩
  have g39 : (zAnd x1 (-2) = 0 ∨ zAnd x2 (-2) = 0) → J ω m_Ci_xor (d + 1) 0 0 0 0 39 [(3, .int (zI (zAnd (zXor x1 x2) 1))), (4, .int (zI (zAnd x1 (-2)))), (5, .int (zI (zAnd x2 (-2))))] [] σ (q_ki K) := by
    intro h0
    have hl : lit s (zAnd x1 (-2) + zAnd x2 (-2)) := ⟨by omega, by omega⟩
    have hl2 := sx s _ hs1.2 (lit_x hs1.2 hl).1
    exact b_Ci_xor_39 hE ⟨_, ⟨by have := hl2.1; omega, by have := hl2.2; omega⟩, rfl, kk _ σ s (CE_refl hc) hl2⟩
  refine b_Ci_xor_0 hE ⟨fun a1 => ⟨fun a2 => g39 (Or.inl a2), fun a2 => ⟨fun a3 => ?_, fun a3 => g39 (Or.inr a3)⟩⟩, fun a1 => ?_⟩
  · refine c_Ci_gate hE hc ⟨by decide, by decide⟩ ⟨by omega, by omega⟩ ⟨by omega, by omega⟩ (by omega) (fun c => absurd c (by decide)) (fun _ => rfl) (fun v τ s' ht hv => b_Ci_xor_69 (fr_E ht.1 hE) ?_)
    have := ht.2.1.2.1
    have hl2 := sx s' v this.2 hv
    exact ⟨_, ⟨by have := hl2.1; omega, by have := hl2.2; omega⟩, rfl, kk _ τ s' ht hl2⟩
  · have hl2 := sx s 1 hs1.2 l1
    exact ⟨_, ⟨by have := hl2.1; omega, by have := hl2.2; omega⟩, rfl, kk _ σ s (CE_refl hc) hl2⟩
end CiJ
