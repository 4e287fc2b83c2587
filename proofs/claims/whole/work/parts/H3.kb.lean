/-! The call build, in both -/
theorem ex_z {σ : q_H} (h : q_E σ) (t : Nat × Nat) {o : Nat} (ho : o ≤ 132) : z (q_add σ t) o = z σ o := funext fun k => by unfold z; rw [q_exI h t ho]
theorem ex_r {σ : q_H} (h : q_E σ) (t : Nat × Nat) {o : Nat} (ho : o ≤ 132) : q_r (q_add σ t) o = q_r σ o := q_row_n _ _ (by have := h.1; omega)
theorem ex_l {σ : q_H} (h : q_E σ) (t : Nat × Nat) {o : Nat} (ho : o ≤ 132) : q_l (q_add σ t) o = q_l σ o := q_row_n _ _ (by have := h.1; omega)
theorem RV_c {s u : Nat} {σ τ : q_H} (h : RV s u σ) (hr : q_r τ 94 = q_r σ 94) (hE : q_E τ) : RV s u τ := by
  obtain ⟨⟨a, -⟩, b, c⟩ := h
  unfold RV RQ
  rw [hr]
  exact ⟨⟨a, hE⟩, b, c⟩
theorem nin_S0 {q o : Nat} (hq : q = 16 ∨ q = 29) (h : o = 1 ∨ o = 3 ∨ o = 7 ∨ (42 ≤ o)) : o ∉ S0q q := by
  unfold S0q SPq
  simp
  omega
theorem nin_p {p q o : Nat} (hpq : (p = 16 ∧ q = 29) ∨ (p = 29 ∧ q = 16)) (h1 : p ≤ o) (h2 : o ≤ p + 12) : o ∉ S0q q := by
  unfold S0q SPq
  simp
  omega
theorem nin_SR {u o : Nat} (hu : u = 110 ∨ u = 116) (h : o < 94 ∨ o = 95 ∨ o = 100 ∨ o = 101 ∨ o = 106 ∨ o = 107 ∨ (122 ≤ o)) : o ∉ SRb u := by
  unfold SRb
  simp
  omega
theorem nin_SRs {u s o : Nat} (hu : u = 110 ∨ u = 116) (hs : s = 110 ∨ s = 116) (ne : s ≠ u) (h : o = s ∨ o = s + 1 ∨ o = s + 2 ∨ o = s + 3 ∨ o = s + 4 ∨ o = s + 5) : o ∉ SRb u := by
  unfold SRb
  simp
  omega
theorem q_of_z {σ : q_H} {o k : Nat} {e : Int} (h : z σ o k = e) : q_i σ o k = zI e := by rw [q_z, h]
section KbP
variable {ω : q_W} {n p q s u m : Nat} {σ : q_H} {P : q_H → Prop}
/-- the reference's half, after the class has refused -/
theorem kb_bad {σx : q_H} {T : Nat} {X : Nat → Nat → q_PR} {rD : Except Nat (Nat × q_Ds)} {rS : q_SR} (hB : Bas n p q s u m σ) (hE : q_E σx) (hn : q_n σx = q_n σ + 1) (hP : PB q T m X rD rS σx) (h9 : (bO (z σx 5) m rD rS).1 ≠ 0) (hTK : TKi (z σ 3) m σx (T + 1)) (hsT : sp (z σ 3) m T = m)
    (hr : ∀ o k, o ≤ 132 → ¬ R8 o k → q_r σx o k = q_r σ o k) (hz : ∀ o, o ≤ 132 → o ∉ S0q q → o ≠ 1 → z σx o = z σ o) (hl : q_l σx 7 = q_l σ 7) (h1 : ∀ k, k ≠ 5 → k ≠ 6 → z σx 1 k = z σ 1 k) (h15 : z σx 1 5 = (bO (z σx 5) m rD rS).1) (h16 : z σx 1 6 = (bO (z σx 5) m rD rS).2) (h22 : z σx 2 2 = 0) (hw : WD q σx)
    (kb : ∀ τ, Bas (n + 1) p q s u 0 τ → (∀ o, o ∈ [42, 43, 44, 47, 50, 71, 75, 91, 125, 126, 129, p, p + 1] → z τ o = z σ o) → (∀ k, k ∈ [62, 63] → z τ 94 k = z σ 94 k) → z τ 1 4 = z σ 1 4 → P τ) :
    J ω m_M_build 2000 0 0 0 0 0 [(0, .ref 94)] [] σx (fun r2 τ2 => ∃ bv : Int32, r2 = .inl (some (.int bv)) ∧ q_E τ2 ∧ q_i τ2 94 0 = 1 ∧ ((1 : Int32) = 0 → q_l τ2 132 0 = bv.toInt64) ∧ P τ2) := by
  obtain ⟨⟨bE, bn⟩, ⟨b12, b13, hpq⟩, bw, ⟨bw1, bw2⟩, b84, b47, ⟨t1, t2, t3, t4⟩, bV, b65, ⟨bf1, bf2⟩, bt⟩ := id hB
  have hq : q = 16 ∨ q = 29 := by omega
  have hp : p = 16 ∨ p = 29 := by omega
  have n94 : z σx 94 = z σ 94 := hz 94 (by decide) (nin_S0 hq (by omega)) (by decide)
  have Vx : RV s u σx := RV_c bV (funext fun k => hr 94 k (by decide) (by unfold R8; omega)) hE
  have hs := bV.1.1.1
  have hu := bV.2.1.1
  have ne := bV.2.2
  refine j_mono (fun r τ h => ?_) (r_build (f := z σ 3) (Kk := fun v τ2 => v = 0 ∧ q_E τ2 ∧ z τ2 94 0 = 1 ∧ P τ2) (by omega) Vx t2 (by rw [n94]; exact t3) (fun j hj => by rw [hz 95 (by decide) (nin_S0 hq (by omega)) (by decide)]; exact (t4 j hj).1) (fun j hj => (t4 j hj).2) hTK hsT hq hP (fun τ V F o0 o2 o50 o51 ok _ => ⟨rfl, V.1.2, o0, ?_⟩) (fun τ t' D' t'' sm hr1 hr2 hF hw15 _ _ _ _ _ => ?_))
  · obtain ⟨v, vR, e, h1, h2, h3, h4⟩ := h
    exact ⟨zI v, e, h2, by rw [q_of_z h3]; decide, fun q => absurd q (by decide), h4⟩
  · have zz : ∀ o, o ≤ 132 → o ∉ S0q q → o ≠ 1 → o ∉ SRb u → z τ o = z σ o := fun o a b c e => by rw [frE_z F e, hz o a b c]
    have z1 : z τ 1 = z σx 1 := frE_z F (nin_SR hu (by omega))
    have zk : ∀ k, k ∉ KF ++ [0, 2, 50, 51] → z τ 94 k = z σ 94 k := fun k hk => by rw [ok k hk, n94]
    have rr : ∀ o k, o ≤ 132 → ¬ R8 o k → ¬ R94 o k → q_r τ o k = q_r σ o k := fun o k a b c => by rw [frE_r F c, hr o k a b]
    have e14 : z τ 1 4 = z σ 1 4 := by rw [z1]; exact h1 4 (by decide) (by decide)
    have pz : ∀ o, p ≤ o → o ≤ p + 12 → z τ o = z σ o := fun o a b => zz o (by omega) (nin_p hpq a b) (by omega) (nin_SR hu (by omega))
    have wq : WD q τ := fun i hi => by rw [frE_z F (nin_SR hu (by omega))]; exact hw i hi
    have wp : WD p σ := by rcases hpq with ⟨a, -⟩ | ⟨a, -⟩ <;> (rw [a]; assumption)
    have wp' : WD p τ := fun i hi => by rw [pz (p + 3) (by omega) (by omega)]; exact wp i hi
    refine kb τ ⟨⟨V.1.2, by rw [F.1, hn]; omega⟩, ⟨by rw [rr 1 2 (by decide) (by unfold R8; omega) (by unfold R94; omega)]; exact b12, by rw [rr 1 3 (by decide) (by unfold R8; omega) (by unfold R94; omega)]; exact b13, hpq⟩, fun j hj => by rw [frE_l F (nin_SR hu (by omega)), hl]; exact bw j hj, ?_, fun g => by rw [zz 84 (by decide) (nin_S0 hq (by omega)) (by decide) (nin_SR hu (by omega))]; exact b84 g, by rw [zz 47 (by decide) (nin_S0 hq (by omega)) (by decide) (nin_SR hu (by omega))]; exact b47, ⟨by rw [frE_z F (nin_SR hu (by omega))]; exact h22, by omega, o2, fun j hj => absurd hj (by omega)⟩, V, by rw [zk 65 (by decide)]; exact b65, ⟨by rw [z1, h15, o50], by rw [z1, h16, o51]⟩, ?_⟩ (fun o ho => ?_) (fun k hk => ?_) e14
    · rcases hpq with ⟨a, b⟩ | ⟨a, b⟩
      · rw [a] at wp'; rw [b] at wq; exact ⟨wp', wq⟩
      · rw [a] at wp'; rw [b] at wq; exact ⟨wq, wp'⟩
    · rcases bt with ⟨c1, c2, c3⟩ | ⟨c1, c2, c3⟩
      · refine Or.inl ⟨e14.trans c1, by rw [zk 31 (by decide)]; exact c2, ?_⟩
        unfold PN at c3 ⊢
        rw [zk 26 (by decide), zk 27 (by decide), zk 28 (by decide), zk 30 (by decide), zk 62 (by decide), zz 47 (by decide) (nin_S0 hq (by omega)) (by decide) (nin_SR hu (by omega))]
        exact c3
      · refine Or.inr ⟨e14.trans c1, by rw [zk 31 (by decide)]; exact c2, PG_cong hs hp c3 V.1.2 (rr 47 2 (by decide) (by unfold R8; omega) (by unfold R94; omega)) (rr 48 1 (by decide) (by unfold R8; omega) (by unfold R94; omega)) pz (fun o a b => zz o (by omega) (nin_S0 hq (by omega)) (by omega) (nin_SR hu (by omega))) (fun o ho => zz o (by omega) (nin_S0 hq (by omega)) (by omega) (nin_SRs hu hs ne ho)) (zz 106 (by decide) (nin_S0 hq (by omega)) (by decide) (nin_SR hu (by omega))) (zz 107 (by decide) (nin_S0 hq (by omega)) (by decide) (nin_SR hu (by omega))) (zz 126 (by decide) (nin_S0 hq (by omega)) (by decide) (nin_SR hu (by omega))) (fun k hk => zk k ?_) (fun o ho => zz o (by simp at ho; omega) (nin_S0 hq (by simp at ho; omega)) (by simp at ho; omega) (nin_SR hu (by simp at ho; omega)))⟩
        simp only [List.mem_cons, List.not_mem_nil, or_false] at hk
        rcases hk with e | e | e | e | e | e | e | e <;> subst e <;> decide
    · simp only [List.mem_cons, List.not_mem_nil, or_false] at ho
      by_cases c : p ≤ o ∧ o ≤ p + 12
      · exact pz o c.1 c.2
      · exact zz o (by omega) (nin_S0 hq (by omega)) (by omega) (nin_SR hu (by omega))
    · simp only [List.mem_cons, List.not_mem_nil, or_false] at hk
      rcases hk with e | e <;> subst e <;> exact zk _ (by decide)
  · exfalso
    apply h9
    rw [bO_1 hr1 hr2, hF]
    show (if 1500 < sm.2.1 then ((7 : Int), (m : Int)) else (0, -1)).1 = 0
    rw [if_neg (by omega)]
end KbP
