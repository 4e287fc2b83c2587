/-! The class builds, from the call to its end -/
def Sb (q : Nat) : List Nat := [1, 4, 5, 6, 42, 43, 44, 47] ++ SPq q ++ SEi
/-- what reading alone may change -/
def S0q (q : Nat) : List Nat := [4, 5, 6] ++ SPq q
def Rb (o k : Nat) : Prop := (o = 8 ∧ (k = 0 ∨ k = 1)) ∨ (o = 1 ∧ (k = 2 ∨ k = 3)) ∨ (o = 47 ∧ k = 2) ∨ (o = 48 ∧ k = 1)
theorem frE_w {S T : List Nat} {R R' : Nat → Nat → Prop} {σ τ : q_H} (h : frE S R σ τ) (hS : ∀ x ∈ S, x ∈ T) (hR : ∀ o k, R o k → R' o k) : frE T R' σ τ := ⟨h.1, h.2.1, fun o k q => h.2.2.1 o k (fun w => q (hR o k w)), fun o ho => h.2.2.2 o (fun hc => ho (hS o hc))⟩
theorem frE_E {S : List Nat} {R : Nat → Nat → Prop} {σ τ : q_H} (h : frE S R σ τ) (hR : ∀ o k, R o k → q_dyn o k = true) (hE : q_E σ) : q_E τ := by
  obtain ⟨h1, h2, h3, -⟩ := h
  refine ⟨by rw [h1]; exact hE.1, fun k a b => by rw [h2]; exact hE.2.1 k a b, fun o k a b c => ?_⟩
  rw [h3 o k (fun q => by rw [hR o k q] at c; cases c)]
  exact hE.2.2 o k a b c
section HbP
variable {ω : q_W} {d p q n : Nat} {σ : q_H}
theorem mem_Sb1 (q : Nat) : ∀ x ∈ SPq q, x ∈ Sb q := fun x hx => by unfold Sb; simp only [List.mem_append]; exact Or.inl (Or.inr hx)
theorem mem_Sb2 (q : Nat) : ∀ x ∈ SEi, x ∈ Sb q := fun x hx => by unfold Sb; simp only [List.mem_append]; exact Or.inr hx
theorem mem_Sb3 (q : Nat) : ∀ x ∈ [1, 4, 5, 6, 42, 43, 44, 47], x ∈ Sb q := fun x hx => by unfold Sb; simp only [List.mem_append]; exact Or.inl (Or.inl hx)
theorem mem_Sb4 (q : Nat) : ∀ x ∈ [2, 4, 5, 6], x ∈ Sb q := fun x hx => by
  simp only [List.mem_cons, List.not_mem_nil, or_false] at hx
  rcases hx with h | h | h | h <;> subst h
  · exact mem_Sb1 q 2 (by unfold SPq; simp)
  · exact mem_Sb3 q 4 (by simp)
  · exact mem_Sb3 q 5 (by simp)
  · exact mem_Sb3 q 6 (by simp)
/-- from the call to the parting of the ways -/
theorem h_read {Q : q_R → q_H → Prop} (hd : 11 ≤ d) (hp : p = 16 ∨ p = 29) (hq : q = 16 ∨ q = 29) (r12 : q_r σ 1 2 = p) (r13 : q_r σ 1 3 = q) (hE : q_E σ) (hn : n ≤ 4096) (h22 : z σ 2 2 = (n : Int)) (hw : WD q σ) (hwd : ∀ j, j < 7 → q_l σ 7 j = wds.getD j 0)
    (kk : ∀ τ T X rD rS, PB q T n X rD rS τ → TKi (z σ 3) n τ (T + 1) → sp (z σ 3) n T = n → q_E τ → frE (S0q q) R8 σ τ → z τ 2 2 = (n : Int) → WD q τ → J ω m_H_build (d + 1) 1 6 0 0 54 [(0, .ref 1)] [] τ Q) : J ω m_H_build (d + 1) 1 6 0 0 0 [(0, .ref 1)] [] σ Q := by
  refine b_H_build_0 (mc := 0) (ms := 0) hp r12 hq r13 hE (c_Sc_cut (by omega) hE hn h22 hwd (fun τ0 T F0 e2 e8 e4 hlt hsT hTK => ?_))
  have E0 := fr_E F0 hE
  have kt := KT_of hn e4 hlt hsT hTK
  have w0 : WD q τ0 := fun i hi => by rw [fr_zF F0 (by simp; omega)]; exact hw i hi
  refine h_parse (by omega) hp hq (by rw [fr_r F0]; exact r12) (by rw [fr_r F0]; exact r13) E0 kt e8 e2 w0 (fun τ X rD rS hPB hE1 F1 k2 w1 => ?_)
  have n4 : 4 ∉ SPq q := by unfold SPq; simp; omega
  have n5 : 5 ∉ SPq q := by unfold SPq; simp; omega
  have n6 : 6 ∉ SPq q := by unfold SPq; simp; omega
  have m0 : ∀ x ∈ [2, 4, 5, 6], x ∈ S0q q := fun x hx => by
    unfold S0q SPq
    simp only [List.mem_cons, List.not_mem_nil, or_false] at hx
    rcases hx with h | h | h | h <;> subst h <;> simp
  have m1 : ∀ x ∈ SPq q, x ∈ S0q q := fun x hx => by unfold S0q; simp only [List.mem_append]; exact Or.inr hx
  refine kk τ T X rD rS hPB (fun i hi => ?_) hsT hE1 (frE_trans (frE_of F0 m0) (frE_w F1 m1 (fun _ _ h => h))) (by rw [k2 2 (by decide)]; exact e2) w1
  rw [frE_z F1 n5, frE_z F1 n4, frE_l F1 n6]
  exact hTK i hi
end HbP
