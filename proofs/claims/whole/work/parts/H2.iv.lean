/-! THE INVARIANT between calls -/
/-- a PROGRAM is built, in both -/
def PG (p s : Nat) (σ : q_H) : Prop := ∃ (D : q_Ds) (S : List q_St) (w as s0 s1 : Nat) (Nt : Nat → q_It),
  ((D.1.length ≤ bts D.1 ∧ bts D.1 ≤ 12) ∧ D.2.1.length ≤ 12 ∧ (∀ e, e ∈ D.1 ∨ e ∈ D.2.1 → 1 ≤ e.2 ∧ e.2 ≤ 8)) ∧ QS p s0 s1 σ ∧ PS2 p (wI6 D (z σ (p + 1))) D.2.1.length S σ ∧
  ((z σ p 0 = (D.1.length : Int) ∧ z σ 94 26 = (D.1.length : Int)) ∧ (z σ p 4 = (D.2.1.length : Int) ∧ z σ 94 27 = (D.2.1.length : Int)) ∧ (z σ p 1 = (bts D.1 : Int) ∧ z σ 94 29 = (bts D.1 : Int)) ∧ (z σ p 7 = (as : Int) ∧ z σ 94 28 = (as : Int)) ∧ (z σ p 8 = (w : Int) ∧ z σ 94 30 = (w : Int) ∧ w ≤ 1500)) ∧
  (∀ j e, D.1[j]? = some e → z σ (p + 1) j = (e.2 : Int) ∧ z σ 106 j = (e.2 : Int)) ∧ (∀ j e, D.2.1[j]? = some e → z σ (p + 3) j = (e.2 : Int) ∧ z σ 107 j = (e.2 : Int)) ∧
  ND2 Nt D.2.1.length s σ S w ∧ (∀ t v w, Nt t = (25, v, w) → cI (wI6 D (z σ (p + 1))) (z σ (p + 3)) D.2.1.length (25, v, w)) ∧
  ((∀ j, j < 16 → 0 ≤ z σ 126 j) ∧ (∀ j, j < D.1.length → z σ 126 j < 2 ^ (z σ (p + 1) j).toNat)) ∧ (-1 ≤ z σ 94 62 ∧ z σ 94 62 < 2 ^ (bts D.1)) ∧
  TS D.2.1.length (fun e => PE (cI (wI6 D (z σ (p + 1))) (z σ (p + 3)) D.2.1.length) e ∧ hB e.1 0 = some 1) true 0 0 0 0 S w as ∧ HI s1 σ ∧ ENs D.2.1.length (z σ (p + 3)) S σ s0 ∧ TBq p D.2.1.length S σ
/-- none is built -/
def PN (σ : q_H) : Prop := z σ 94 26 = 0 ∧ z σ 94 27 = 0 ∧ z σ 94 28 = 0 ∧ z σ 94 30 = 0 ∧ z σ 94 62 = -1 ∧ z σ 47 5 = 0
/-- TEXT, the same in both -/
def TXe (m : Nat) (σ : q_H) : Prop := z σ 2 2 = (m : Int) ∧ m ≤ 4096 ∧ z σ 94 2 = (m : Int) ∧ ∀ j, j < m → z σ 95 j = z σ 3 j ∧ -128 ≤ z σ 3 j ∧ z σ 3 j ≤ 127
def Bas (n p q s u m : Nat) (σ : q_H) : Prop :=
  (q_E σ ∧ q_n σ ≤ 132 + n) ∧ (q_r σ 1 2 = p ∧ q_r σ 1 3 = q ∧ ((p = 16 ∧ q = 29) ∨ (p = 29 ∧ q = 16))) ∧ (∀ j, j < 7 → q_l σ 7 j = wds.getD j 0) ∧ (WD 16 σ ∧ WD 29 σ) ∧ (∀ g, z σ 84 g = 0) ∧ (z σ 47 5 = 0 ∨ z σ 47 5 = 1) ∧ TXe m σ ∧ RV s u σ ∧ z σ 94 65 = 0 ∧ (z σ 1 5 = z σ 94 50 ∧ z σ 1 6 = z σ 94 51) ∧
  ((z σ 1 4 = 0 ∧ z σ 94 31 = 0 ∧ PN σ) ∨ (z σ 1 4 = 1 ∧ z σ 94 31 = 1 ∧ PG p s σ))
section IvP
variable {p q s u m n T : Nat} {σ τ : q_H} {X : Nat → Nat → q_PR} {rD : Except Nat (Nat × q_Ds)} {rS : q_SR}
theorem PB_cong (hq : q = 16 ∨ q = 29) (h : PB q T n X rD rS σ) (h24 : z τ 2 4 = z σ 2 4) (h4 : z τ 4 = z σ 4) (h5 : z τ 5 = z σ 5) (l6 : q_l τ 6 = q_l σ 6) (hz : ∀ o, q ≤ o → o ≤ q + 12 → z τ o = z σ o) (l2 : q_l τ (q + 2) = q_l σ (q + 2)) (l4 : q_l τ (q + 4) = q_l σ (q + 4)) : PB q T n X rD rS τ := by
  have zq := hz q (by omega) (by omega)
  have z1 := hz (q + 1) (by omega) (by omega)
  have z3 := hz (q + 3) (by omega) (by omega)
  have hf : ∀ w, fnd q τ w = fnd q σ w := fun w => by unfold fnd; rw [l2, l4, zq]
  have nI' : nmI q τ = nmI q σ := funext fun t => by unfold nmI; rw [hf, h4, l6, z1, z3]
  have nB' : nmB q τ = nmB q σ := funext fun t => by unfold nmB; rw [hf, h4, l6]
  obtain ⟨a, b, c, d, e, f⟩ := h
  refine ⟨?_, ?_, ?_, fun t' D' hr => ?_, ?_, fun t' D' t'' sm h1 h2 => ?_⟩
  · unfold KT KS at a ⊢; rw [h24, h4, h5, l6]; exact a
  · rw [h4, nI', nB']; exact b
  · rw [h4, l6]; exact c
  · obtain ⟨d1, d2, d3⟩ := d t' D' hr
    refine ⟨d1, ?_, by rw [h4, nI', nB']; exact d3⟩
    unfold DQt at d2 ⊢
    rw [zq, z1, z3, l2, l4, l6]; exact d2
  · rw [zq, h5]; exact e
  · obtain ⟨f1, f2⟩ := f t' D' t'' sm h1 h2
    refine ⟨GP_cong f1 hz, ?_⟩
    rw [zq, hz (q + 5) (by omega) (by omega), hz (q + 6) (by omega) (by omega), hz (q + 7) (by omega) (by omega), hz (q + 8) (by omega) (by omega), hz (q + 9) (by omega) (by omega), hz (q + 10) (by omega) (by omega), hz (q + 11) (by omega) (by omega), hz (q + 12) (by omega) (by omega)]
    exact f2
theorem ND2_cong {Nt : Nat → q_It} {V w : Nat} {S : List q_St} (h : ND2 Nt V s σ S w) (hz : ∀ o, (o = s ∨ o = s + 1 ∨ o = s + 2 ∨ o = s + 3 ∨ o = s + 4 ∨ o = s + 5) → z τ o = z σ o) (h45 : z τ 94 45 = z σ 94 45) : ND2 Nt V s τ S w := by
  obtain ⟨ns, a, b, c⟩ := h
  exact ⟨ns, a, by rw [hz (s + 4) (by omega), h45]; exact b, NSs_mono ns _ _ _ c (fun m _ i l w q => NS_mono 32 m i 0 l w q (KM_eq hz m))⟩
/-- a PROGRAM stays, where its cells do -/
theorem PG_cong (hs : s = 110 ∨ s = 116) (hp : p = 16 ∨ p = 29) (h : PG p s σ) (hE : q_E τ) (r1 : q_r τ 47 2 = q_r σ 47 2) (r2 : q_r τ 48 1 = q_r σ 48 1) (hz : ∀ o, p ≤ o → o ≤ p + 12 → z τ o = z σ o) (hc : ∀ o, 48 ≤ o → o ≤ 69 → z τ o = z σ o) (hn : ∀ o, (o = s ∨ o = s + 1 ∨ o = s + 2 ∨ o = s + 3 ∨ o = s + 4 ∨ o = s + 5) → z τ o = z σ o) (h6 : z τ 106 = z σ 106) (h7 : z τ 107 = z σ 107) (h126 : z τ 126 = z σ 126) (h94 : ∀ k, k ∈ [26, 27, 28, 29, 30, 45, 62, 55] → z τ 94 k = z σ 94 k) (htb : ∀ o, o ∈ [122, 124, 131] → z τ o = z σ o) : PG p s τ := by
  obtain ⟨D, S, w, as, s0, s1, Nt, hD, hQ, hP, hN, hi, hv, hd, ht, hno, hwi, hts, hhi, hen, htq⟩ := h
  have p1 := hz (p + 1) (by omega) (by omega)
  have p3 := hz (p + 3) (by omega) (by omega)
  refine ⟨D, S, w, as, s0, s1, Nt, hD, ?_, ?_, ?_, ?_, ?_, ND2_cong hd hn (h94 45 (by simp)), ?_, ?_, ?_, ?_, ?_, ?_, TBq_cg htq (hz p (by omega) (by omega)) p1 p3 (h94 55 (by simp)) htb⟩
  · obtain ⟨⟨-, q1, q2⟩, gp, ci, ss, a7, a62, a63, a4, a6, inp⟩ := hQ
    refine ⟨⟨hE, by rw [r1]; exact q1, by rw [r2]; exact q2⟩, GP_cong gp hz, ?_, ss, ?_, ?_, ?_, ?_, ?_, INP_cong inp (hc 61 (by decide) (by decide)) (hz p (by omega) (by omega)) p1⟩
    · unfold CI
      rw [hc 50 (by decide) (by decide), hc 51 (by decide) (by decide), hc 52 (by decide) (by decide), hc 53 (by decide) (by decide), hc 54 (by decide) (by decide), hc 55 (by decide) (by decide), hc 56 (by decide) (by decide), hc 57 (by decide) (by decide)]; exact ci
    · rw [hc 48 (by decide) (by decide)]; exact a7
    · rw [hc 62 (by decide) (by decide)]; exact a62
    · rw [hc 63 (by decide) (by decide)]; exact a63
    · rw [hc 48 (by decide) (by decide)]; exact a4
    · rw [hc 48 (by decide) (by decide)]; exact a6
  · rw [p1]; exact PS2_cong hP hz
  · rw [hz p (by omega) (by omega), h94 26 (by simp), h94 27 (by simp), h94 28 (by simp), h94 29 (by simp), h94 30 (by simp)]; exact hN
  · rw [p1, h6]; exact hi
  · rw [p3, h7]; exact hv
  · rw [p1, p3]; exact ht
  · rw [h126, p1]; exact hno
  · rw [h94 62 (by simp)]; exact hwi
  · rw [p1, p3]; exact hts
  · exact HI_z (fun o a b => hc o (by omega) (by omega)) hhi
  · rw [p3]
    exact ENs_cong hen (hc 48 (by decide) (by decide)) (hc 51 (by decide) (by decide)) (hc 52 (by decide) (by decide)) (hc 53 (by decide) (by decide)) (hc 54 (by decide) (by decide)) (hc 61 (by decide) (by decide)) (hc 62 (by decide) (by decide)) (hc 63 (by decide) (by decide))
end IvP
