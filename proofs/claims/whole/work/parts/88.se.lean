/-! Solver.search -/
def SI (s ts lv dn wc rq top : Nat) (cs : List Nat) (Ws : Nat → List Nat) (F : List Nat) (ρ : q_H) : Prop :=
  CX s top cs Ws ρ ∧ TX s ts lv cs ρ ∧ z ρ 70 7 = (dn : Int) ∧ dn ≤ ts ∧ (∀ i, dn ≤ i → i < ts → z ρ 79 (gt (z ρ 81 i)) = (lv : Int)) ∧ WQ (z ρ 72) (z ρ 78) (z ρ 79) (z ρ 81) cs dn ∧ (∀ g, z ρ 84 g = 0) ∧ WI s wc ρ ∧
  (∃ nt : Nat, z ρ 70 8 = (nt : Int) ∧ (lv = 0 → nt ≤ ts) ∧ (1 ≤ lv → (nt : Int) ≤ z ρ 82 1)) ∧ DW wc lv (z ρ 83) (z ρ 78) (z ρ 79) (z ρ 81) (z ρ 82) ∧ FM wc (z ρ 83) (z ρ 72) cs F ∧ top ≤ 270000 + 15 * F.length + rq ∧ 1 ≤ ts ∧ z ρ 70 13 = 0
/-- what search leaves alone -/
def SF (σ ρ : q_H) : Prop := fr [70, 71, 72, 73, 75, 76, 77, 78, 79, 80, 81, 82, 84, 85, 86] σ ρ ∧ ∀ k, k ≠ 6 → k ≠ 7 → k ≠ 8 → k ≠ 10 → k ≠ 16 → k ≠ 18 → z ρ 70 k = z σ 70 k
theorem SI_fr {s ts lv dn wc rq top : Nat} {cs : List Nat} {Ws : Nat → List Nat} {F : List Nat} {ρ μ : q_H} (h : SI s ts lv dn wc rq top cs Ws F ρ) (f : fr [70, 75, 76, 77, 84, 85, 86] ρ μ) (fk : ∀ k, k ≠ 8 → k ≠ 16 → k ≠ 18 → z μ 70 k = z ρ 70 k) (hz : ∀ g, z μ 84 g = 0) (hn : ∃ nt : Nat, z μ 70 8 = (nt : Int) ∧ (lv = 0 → nt ≤ ts) ∧ (1 ≤ lv → (nt : Int) ≤ z ρ 82 1)) : SI s ts lv dn wc rq top cs Ws F μ := by
  obtain ⟨hx, ⟨x1, x2, x3, x4⟩, h7, hdn, hlv, hq, -, ⟨w1, w2, w3⟩, -, hD, hFM, htop, hts, h13⟩ := h
  unfold SI CX TX WI
  rw [fr_zF f (show (71 : Nat) ∉ [70, 75, 76, 77, 84, 85, 86] by decide), fr_zF f (show (72 : Nat) ∉ [70, 75, 76, 77, 84, 85, 86] by decide), fr_zF f (show (73 : Nat) ∉ [70, 75, 76, 77, 84, 85, 86] by decide), fr_zF f (show (78 : Nat) ∉ [70, 75, 76, 77, 84, 85, 86] by decide), fr_zF f (show (79 : Nat) ∉ [70, 75, 76, 77, 84, 85, 86] by decide), fr_zF f (show (80 : Nat) ∉ [70, 75, 76, 77, 84, 85, 86] by decide), fr_zF f (show (81 : Nat) ∉ [70, 75, 76, 77, 84, 85, 86] by decide), fr_zF f (show (82 : Nat) ∉ [70, 75, 76, 77, 84, 85, 86] by decide), fr_zF f (show (83 : Nat) ∉ [70, 75, 76, 77, 84, 85, 86] by decide), fk 6 (by decide) (by decide) (by decide), fk 7 (by decide) (by decide) (by decide), fk 10 (by decide) (by decide) (by decide), fk 12 (by decide) (by decide) (by decide), fk 13 (by decide) (by decide) (by decide)]
  exact ⟨hx, ⟨x1, x2, x3, x4⟩, h7, hdn, hlv, hq, hz, ⟨w1, w2, w3⟩, hn, hD, hFM, htop, hts, h13⟩
theorem WQ_any {s ts lv top dn : Nat} {M V L Rs T St : Nat → Int} {cs : List Nat} {o e : Int} (h : TRp s ts lv M cs V L Rs T St) (hcl : CLp M top s cs) (lo : lit s o) (v0 : V o.toNat = 0) (hdn : dn ≤ ts) (hq : WQ M V L T cs dn) : WQ M (up (up V o.toNat 1) (ng o).toNat (-1)) (up L (gt o) e) (up T ts o) cs dn := by
  intro c hc h2 q he i hi ei
  rw [up_n (by omega)] at ei
  obtain ⟨q1, q2⟩ := hq c hc h2 q he i hi ei
  have l1 := (hcl.1 c hc).2.2.2.1 (1 - q) (by omega)
  have l2 := (hcl.1 c hc).2.2.2.1 q (by omega)
  have v2 : V (M (c + 3 + q)).toNat ≠ 0 := by
    have := (h.1 i (by omega)).2.2
    rw [ei, ng_ng] at this
    omega
  obtain ⟨g1, g2⟩ := AS_o h lo v0 l1 (by omega)
  obtain ⟨g3, -⟩ := AS_o h lo v0 l2 v2
  rw [g2, up_n g1, up_n g3]
  exact ⟨q1, q2⟩
section SeJ
variable {ω : q_W} {d s wc rq : Nat} {σ : q_H}
/-- a decision -/
theorem s_decide {K : q_H → Prop} {ts lv top i : Nat} {cs : List Nat} {Ws : Nat → List Nat} {F : List Nat} {π : q_H} (hE : q_E π) (hs : s ≤ 10240) (h : SI s ts lv ts wc rq top cs Ws F π) (hi : i < wc) (hv : z π 78 (z π 83 i).toNat = 0) (hlt : ∀ j, j < i → z π 78 (z π 83 j).toNat ≠ 0)
    (kk : ∀ μ, fr [70, 78, 79, 80, 81, 82] π μ → (∀ k, k ≠ 6 → k ≠ 10 → z μ 70 k = z π 70 k) → SI s (ts + 1) (lv + 1) ts wc rq top cs Ws F μ → (lv = 0 → z μ 82 1 = (ts : Int)) → (1 ≤ lv → z μ 82 1 = z π 82 1) → K μ) :
    (0 ≤ (lv : Int) + 1 ∧ (lv : Int) + 1 < 14) ∧ J ω m_So_assign d 0 0 0 0 0 [(0, .ref 70), (1, .int (zI (z π 83 i))), (2, .int (zI 0))] [] (zs (zs π 70 10 ((lv : Int) + 1)) 82 (lv + 1) (ts : Int)) (q_kv K) := by
  obtain ⟨hx, ⟨x1, x2, x3, hT⟩, h7, hdn, hlv, hq, hz, ⟨w1, w2, w3, w4⟩, ⟨nt, n1, n2, n3⟩, hD, hFM, htop, hts, h13⟩ := h
  have lx := w3 i hi
  have room := DW_room hT w3 hD hi hv
  have hlen := TR_room hT lx hv (TR_fr hT lx hv)
  refine ⟨⟨by omega, by omega⟩, ?_⟩
  have F0 : fr [70, 78, 79, 80, 81, 82] π (zs (zs π 70 10 ((lv : Int) + 1)) 82 (lv + 1) (ts : Int)) := fr_s (fr_s fr_refl (by simp)) (by simp)
  have o : ∀ a, a ≠ 70 → a ≠ 82 → z (zs (zs π 70 10 ((lv : Int) + 1)) 82 (lv + 1) (ts : Int)) a = z π a := fun a h1 h2 => by rw [z_oF h2, z_oF h1]
  have o70 : ∀ k, k ≠ 10 → z (zs (zs π 70 10 ((lv : Int) + 1)) 82 (lv + 1) (ts : Int)) 70 k = z π 70 k := fun k h1 => by rw [z_o (by decide), z_k h1]
  have o10 : z (zs (zs π 70 10 ((lv : Int) + 1)) 82 (lv + 1) (ts : Int)) 70 10 = (lv : Int) + 1 := by rw [z_o (by decide), z_s ⟨by omega, by omega⟩]
  have o82 : z (zs (zs π 70 10 ((lv : Int) + 1)) 82 (lv + 1) (ts : Int)) 82 = up (z π 82) (lv + 1) (ts : Int) := by rw [z_up ⟨by omega, by omega⟩, z_oF (by decide)]
  refine s_assign (fr_E F0 hE) hs lx ⟨by decide, by decide⟩ (by rw [o70 6 (by decide)]; exact x1) (by omega) (fun μ fa t78 t79 t80 t81 tt6 tk => ?_)
  rw [o 78 (by decide) (by decide)] at t78
  rw [o 79 (by decide) (by decide), o10] at t79
  rw [o 80 (by decide) (by decide)] at t80
  rw [o 81 (by decide) (by decide)] at t81
  have F1 : fr [70, 78, 79, 80, 81, 82] π μ := fr_trans F0 (fr_mono fa (by simp))
  have u82 : z μ 82 = up (z π 82) (lv + 1) (ts : Int) := (fr_zF fa (by decide)).trans o82
  have u70 : ∀ k, k ≠ 6 → k ≠ 10 → z μ 70 k = z π 70 k := fun k a b => by rw [tk k a, o70 k b]
  have e : ∀ {a}, a ∉ [70, 78, 79, 80, 81, 82] → z μ a = z π a := fun h => fr_zF F1 h
  have hTR := TR_decide hT lx hv hts
  have e1 : lv = 0 → z μ 82 1 = (ts : Int) := fun q => by subst q; rw [u82, up_s]
  have e2 : 1 ≤ lv → z μ 82 1 = z π 82 1 := fun q => by rw [u82, up_n (by omega)]
  refine kk μ F1 u70 ⟨?_, ⟨by rw [tt6]; omega, by rw [tk 10 (by decide), o10]; omega, by omega, ?_⟩, by rw [u70 7 (by decide) (by decide)]; exact h7, by omega, fun j h1 h2 => ?_, ?_, fun g => by rw [e (by decide)]; exact hz g, ⟨by rw [u70 12 (by decide) (by decide)]; exact w1, w2, by rw [e (by decide)]; exact ⟨w3, w4⟩⟩, ⟨nt, by rw [u70 8 (by decide) (by decide)]; exact n1, fun q => absurd q (by omega), fun _ => ?_⟩, ?_, ?_, htop, by omega, by rw [u70 13 (by decide) (by decide)]; exact h13⟩ e1 e2
  · unfold CX; rw [e (by decide), e (by decide), e (by decide)]; exact hx
  · rw [e (by decide), t78, t79, t80, t81, u82]; exact hTR
  · rw [t79, t81, show j = ts by omega, up_s, up_s]; omega
  · rw [e (by decide), t78, t79, t81]
    exact WQ_any hT hx.2.2.1 lx hv (Nat.le_refl _) hq
  · by_cases q : lv = 0
    · rw [e1 q]; have := n2 q; omega
    · rw [e2 (by omega)]; exact n3 (by omega)
  · rw [e (show (83 : Nat) ∉ [70, 78, 79, 80, 81, 82] by decide), t78, t79, t81, u82]
    intro k h1 h2
    by_cases q : k = lv + 1
    · subst q
      refine ⟨i, hi, by rw [up_s, Int.toNat_natCast, up_s], fun j hj => ?_⟩
      obtain ⟨g1, g2⟩ := AS_o hT lx hv (w3 j (by omega)) (hlt j hj)
      obtain ⟨p, hp, ep⟩ := TR_on hT (w3 j (by omega)) (hlt j hj)
      have := (hT.2.2.2.1 p hp).2
      rw [ep] at this
      rw [g2, up_n g1]
      exact ⟨hlt j hj, by omega⟩
    · obtain ⟨i2, a, b, c⟩ := hD k h1 (by omega)
      have := (hT.2.2.2.2.1 k h1 (by omega)).2.1
      refine ⟨i2, a, by rw [up_n q, up_n (by omega)]; exact b, fun j hj => ?_⟩
      obtain ⟨c1, c2⟩ := c j hj
      obtain ⟨g1, g2⟩ := AS_o hT lx hv (w3 j (by omega)) c1
      rw [g2, up_n g1]
      exact ⟨c1, c2⟩
  · rw [e (show (83 : Nat) ∉ [70, 78, 79, 80, 81, 82] by decide), e (show (72 : Nat) ∉ [70, 78, 79, 80, 81, 82] by decide)]; exact hFM
end SeJ
