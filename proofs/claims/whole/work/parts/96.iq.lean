/-! INQUIRY, safety: tally, demandWorth; Encoder.difference -/
section IqJ
variable {ω : q_W} {d p s0 s : Nat} {σ σ0 : q_H}
theorem i_tally {K : Int → q_H → Prop} (hd : 9 ≤ d) (hp : p = 16 ∨ p = 29) (h : QS p s0 s σ) (h84 : ∀ g, z σ 84 g = 0) (kk : ∀ w τ, IS p s0 s0 σ τ → z τ 47 5 = 0 → K w τ) : J ω m_In_tally d 0 0 0 0 0 [(0, .ref 47)] [] σ (q_ki K) := by
  obtain ⟨d, rfl⟩ : ∃ k, d = k + 1 := ⟨d - 1, by omega⟩
  have fin : ∀ (x1 : Int) ρ, inR x1 → IS p s0 s0 σ ρ → q_ki K (.inl (some (.int (zI x1)))) (zs ρ 47 5 0) := fun x1 ρ i1 q => ⟨x1, i1, rfl, kk x1 _ (IS_end hp q) (z_s ⟨by decide, by decide⟩)⟩
  have l : ∀ (m n : Nat) (x1 : Int) (ρ : q_H) (wc rq : Nat), 20 ≤ n + m → n ≤ 20 → (0 ≤ x1 ∧ x1 ≤ (n : Int)) → FS p s0 s0 wc rq σ ρ → rq ≤ 64 + 15 * n → J ω m_In_tally (d + 1) 0 0 0 0 45 [(0, .ref 47), (1, .int (zI x1)), (2, .int (zI (n : Int)))] [] ρ (q_ki K) := by
    intro m
    induction m with
    | zero =>
      intro n x1 ρ wc rq a1 a2 a3 a4 a5
      have hI := FS_I a4
      exact b_In_tally_45 hp hI.1.1.2.1 hI.1.1.1 ⟨⟨by omega, by omega⟩, fun _ => fin x1 ρ ⟨by omega, by omega⟩ hI, fun c => absurd c (by omega)⟩
    | succ m ih =>
      intro n x1 ρ wc rq a1 a2 a3 a4 a5
      have hI := FS_I a4
      refine b_In_tally_45 hp hI.1.1.2.1 hI.1.1.1 ⟨⟨by omega, by omega⟩, fun _ => fin x1 ρ ⟨by omega, by omega⟩ hI, fun cn => ⟨fun _ => fin x1 ρ ⟨by omega, by omega⟩ hI, fun c5 => ?_⟩⟩
      have hL : LSt p s0 s0 wc rq σ ρ := by
        rcases a4 with ⟨q, -⟩ | ⟨-, q⟩
        · exact absurd q c5
        · exact q
      refine i_requireOther (by omega) hp hL (by omega) (fun τ hτ => b_In_tally_62 hp hτ.1.1.1.2.1 hτ.1.1.1.1 (i_lookF (by omega) hp (Or.inl hτ) (by omega) (fun μ hμ => ?_)))
      have hI2 := FS_I hμ
      have go : ∀ y : Int, inR y → J ω m_In_verdict d 0 0 0 0 0 [(0, .ref 47), (1, .int (zI y))] [] μ (q_ki (fun v τ => J ω m_In_tally (d + 1) 0 0 0 0 86 [(0, .ref 47), (2, .int (zI (n : Int)))] [.int (zI v), .int (zI x1)] τ (q_ki K))) := fun y iy => by
        refine i_verdict hp hI2.1.1.1 hI2.1.1.2.1 iy (FS_5 hμ) (fun ν fv fk => ?_)
        have hν := FS_47 hp hμ fv fk
        have hI3 := FS_I hν
        have h5 := FS_5 hμ
        refine b_In_tally_86 hp hI3.1.1.2.1 hI3.1.1.1 ?_
        rw [show (n : Int) + 1 = ((n + 1 : Nat) : Int) by omega]
        exact ih (n + 1) _ ν wc (rq + 15) (by omega) (by omega) (by omega) hν (by omega)
      exact b_In_tally_66 hp hI2.1.1.2.1 hI2.1.1.1 ⟨fun _ => go 0 ⟨by decide, by decide⟩, fun _ => go 1 ⟨by decide, by decide⟩⟩
  refine b_In_tally_0 hp h.1.2.1 h.1.1 (i_open (by omega) hp h h84 (fun τ hτ => b_In_tally_4 hp hτ.1.1.2.1 hτ.1.1.1 (i_demand (by omega) hp hτ hτ.1.2.2.2.2.2.2.2.1 (fun ρ hρ => b_In_tally_15 hp hρ.1.1.2.1 hρ.1.1.1 (i_pose (by omega) hp hρ (fun π wc rq hP hr _ => b_In_tally_19 hp hP.1.1.1.2.1 hP.1.1.1.1 (i_lookF (by omega) hp (Or.inl hP) (by omega) (fun μ hμ => ?_))))))))
  have hI2 := FS_I hμ
  have go : ∀ y : Int, inR y → J ω m_In_verdict d 0 0 0 0 0 [(0, .ref 47), (1, .int (zI y))] [] μ (q_ki (fun v τ => J ω m_In_tally (d + 1) 0 0 0 0 42 [(0, .ref 47)] [.int (zI v)] τ (q_ki K))) := fun y iy => by
    refine i_verdict hp hI2.1.1.1 hI2.1.1.2.1 iy (FS_5 hμ) (fun ν fv fk => ?_)
    have hν := FS_47 hp hμ fv fk
    have hI3 := FS_I hν
    have h5 := FS_5 hμ
    refine b_In_tally_42 hp hI3.1.1.2.1 hI3.1.1.1 (l 19 1 _ ν wc rq (by decide) (by decide) (by omega) hν (by omega))
  exact b_In_tally_23 hp hI2.1.1.2.1 hI2.1.1.1 ⟨fun _ => go 0 ⟨by decide, by decide⟩, fun _ => go 1 ⟨by decide, by decide⟩⟩
theorem zBit {x k : Int} : zAnd (zShr x k) 1 = 0 ∨ zAnd (zShr x k) 1 = 1 := by
  have := zAnd_lo (x := zShr x k) 1 (by decide)
  have e : ((2 ^ 1 - 1 : Nat) : Int) = 1 := by decide
  have e2 : ((2 ^ 1 : Nat) : Int) = 2 := by decide
  rw [e, e2] at this
  omega
theorem i_demandWorth {K : q_H → Prop} {v : Nat} {x2 : Int} (hd : 2 ≤ d) (hp : p = 16 ∨ p = 29) (h : IS p s0 s σ0 σ) (hv : v < 12) (i2 : inR x2) (kk : ∀ τ, IS p s0 s σ0 τ → K τ) : J ω m_In_demandWorth d 0 0 0 0 0 [(0, .ref 47), (1, .int (zI (v : Int))), (2, .int (zI x2))] [] σ (q_kv K) := by
  obtain ⟨d, rfl⟩ : ∃ k, d = k + 1 := ⟨d - 1, by omega⟩
  have l : ∀ (m n : Nat) (ρ : q_H), 8 ≤ n + m → n ≤ 8 → IS p s0 s σ0 ρ → J ω m_In_demandWorth (d + 1) 0 0 0 0 18 [(0, .ref 47), (1, .int (zI (v : Int))), (2, .int (zI x2)), (3, .int (zI (n : Int)))] [] ρ (q_kv K) := by
    intro m
    induction m with
    | zero =>
      intro n ρ a1 a2 hI
      exact b_In_demandWorth_18 hp hI.1.1.2.1 hI.1.1.1 ⟨⟨by omega, by omega⟩, fun _ => ⟨rfl, kk ρ hI⟩, fun c => absurd c (by omega)⟩
    | succ m ih =>
      intro n ρ a1 a2 hI
      have hs := hI.1.2.2.1.2.1.2
      refine b_In_demandWorth_18 hp hI.1.1.2.1 hI.1.1.1 ⟨⟨by omega, by omega⟩, fun _ => ⟨rfl, kk ρ hI⟩, fun c => ⟨⟨by omega, by omega⟩, ?_⟩⟩
      have lx := lit_m (hI.1.2.2.2.2.2.1 ((v : Int) * 8 + (n : Int)).toNat (by omega)) hI.1.2.2.2.1.2
      refine i_demand (by omega) hp hI (lit_b hs (lit_b hs lx zBit) (Or.inr rfl)) (fun τ hτ => b_In_demandWorth_50 hp hτ.1.1.2.1 hτ.1.1.1 ?_)
      rw [show (n : Int) + 1 = ((n + 1 : Nat) : Int) by omega]
      exact ih (n + 1) τ (by omega) (by omega) hτ
  refine b_In_demandWorth_0 hp h.1.1.2.1 h.1.1.1 ⟨i2, fun _ => l 8 0 σ (by decide) (by decide) h, fun _ => i_demand (by omega) hp h ⟨by decide, by have := h.1.2.2.1.2.1; omega⟩ (fun τ hτ => b_In_demandWorth_16 hp hτ.1.1.2.1 hτ.1.1.1 (l 8 0 τ (by decide) (by decide) hτ))⟩
theorem IS_CE {s' : Nat} {τ : q_H} (hp : p = 16 ∨ p = 29) (h : IS p s0 s σ0 σ) (g : CE s s' σ τ) : IS p s0 s' σ0 τ := by
  obtain ⟨hQ, h84, ⟨rc, dm, e1, e2, e3, e4, e5⟩, f⟩ := h
  refine ⟨QS_ci hp hQ g.1 (by simp) g.2.1 (by have := hQ.2.2.2.1; have := g.2.2.1; omega), fun k => by rw [fr_zF g.1 (by decide)]; exact h84 k, ⟨rc, dm, by rw [fr_zF g.1 (by decide)]; exact e1, e2, by rw [fr_zF g.1 (by decide)]; exact e3, e4, fun i hi => by rw [fr_zF g.1 (by decide)]; exact lit_m (e5 i hi) g.2.2.1⟩, fq_trans f (fq_of (fr_mono g.1 (by unfold SQ; simp)))⟩
theorem i_difference {K : Int → q_H → Prop} {v u : Nat} (hd : 4 ≤ d) (hp : p = 16 ∨ p = 29) (h : IS p s0 s σ0 σ) (hv : v < 12) (hu : u < 12) (kk : ∀ x τ s', IS p s0 s' σ0 τ → lit s' x → K x τ) : J ω m_En_difference d 0 0 0 0 0 [(0, .ref 48), (1, .int (zI (v : Int))), (2, .int (zI (u : Int)))] [] σ (q_ki K) := by
  obtain ⟨d, rfl⟩ : ∃ k, d = k + 1 := ⟨d - 1, by omega⟩
  have l : ∀ (m n : Nat) (x3 : Int) (ρ : q_H) (s : Nat), 8 ≤ n + m → n ≤ 8 → IS p s0 s σ0 ρ → lit s x3 → J ω m_En_difference (d + 1) 0 0 0 0 5 [(0, .ref 48), (1, .int (zI (v : Int))), (2, .int (zI (u : Int))), (3, .int (zI x3)), (4, .int (zI (n : Int)))] [] ρ (q_ki K) := by
    intro m
    induction m with
    | zero =>
      intro n x3 ρ s a1 a2 hI a3
      exact b_En_difference_5 hp hI.1.1.2.2 hI.1.1.1 ⟨⟨by omega, by omega⟩, fun _ => ⟨x3, lit_R hI.1.2.2.1.2.1.2 a3, rfl, kk x3 ρ s hI a3⟩, fun c => absurd c (by omega)⟩
    | succ m ih =>
      intro n x3 ρ s a1 a2 hI a3
      refine b_En_difference_5 hp hI.1.1.2.2 hI.1.1.1 ⟨⟨by omega, by omega⟩, fun _ => ⟨x3, lit_R hI.1.2.2.1.2.1.2 a3, rfl, kk x3 ρ s hI a3⟩, fun c => ⟨⟨by omega, by omega⟩, ⟨by omega, by omega⟩, ?_⟩⟩
      have l1 := lit_m (hI.1.2.2.2.2.2.1 ((v : Int) * 8 + (n : Int)).toNat (by omega)) hI.1.2.2.2.1.2
      have l2 := lit_m (hI.1.2.2.2.2.2.1 ((u : Int) * 8 + (n : Int)).toNat (by omega)) hI.1.2.2.2.1.2
      refine c_Ci_xor (by omega) hI.1.1.1 hI.1.2.2.1 l1 l2 (fun y τ s1 g1 ly => ?_)
      have hI1 := IS_CE hp hI g1
      refine b_En_difference_54 hp hI1.1.1.2.2 hI1.1.1.1 (c_Ci_or (by omega) hI1.1.1.1 hI1.1.2.2.1 (lit_m a3 g1.2.2.1) ly (fun y2 τ2 s2 g2 ly2 => ?_))
      have hI2 := IS_CE hp hI1 g2
      refine b_En_difference_57 hp hI2.1.1.2.2 hI2.1.1.1 ?_
      rw [show (n : Int) + 1 = ((n + 1 : Nat) : Int) by omega]
      exact ih (n + 1) y2 τ2 s2 (by omega) (by omega) hI2 ly2
  exact b_En_difference_0 hp h.1.1.2.2 h.1.1.1 (l 8 0 1 σ s (by decide) (by decide) h ⟨by decide, by have := h.1.2.2.1.2.1; omega⟩)
end IqJ
