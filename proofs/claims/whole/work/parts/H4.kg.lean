/-! The call build, the good end -/
theorem QS_cong {p s0 s : Nat} {σ τ : q_H} (hp : p = 16 ∨ p = 29) (h : QS p s0 s σ) (hE : q_E τ) (r1 : q_r τ 47 2 = q_r σ 47 2) (r2 : q_r τ 48 1 = q_r σ 48 1) (hz : ∀ o, p ≤ o → o ≤ p + 12 → z τ o = z σ o) (hc : ∀ o, 48 ≤ o → o ≤ 69 → z τ o = z σ o) : QS p s0 s τ := by
  obtain ⟨⟨-, q1, q2⟩, gp, ci, ss, a7, a62, a63, a4, a6, inp⟩ := h
  refine ⟨⟨hE, by rw [r1]; exact q1, by rw [r2]; exact q2⟩, GP_cong gp hz, ?_, ss, ?_, ?_, ?_, ?_, ?_, INP_cong inp (hc 61 (by decide) (by decide)) (hz p (by omega) (by omega)) (hz (p + 1) (by omega) (by omega))⟩
  · unfold CI
    rw [hc 50 (by decide) (by decide), hc 51 (by decide) (by decide), hc 52 (by decide) (by decide), hc 53 (by decide) (by decide), hc 54 (by decide) (by decide), hc 55 (by decide) (by decide), hc 56 (by decide) (by decide), hc 57 (by decide) (by decide)]; exact ci
  · rw [hc 48 (by decide) (by decide)]; exact a7
  · rw [hc 62 (by decide) (by decide)]; exact a62
  · rw [hc 63 (by decide) (by decide)]; exact a63
  · rw [hc 48 (by decide) (by decide)]; exact a4
  · rw [hc 48 (by decide) (by decide)]; exact a6
theorem nin_SG {u o : Nat} (hu : u = 110 ∨ u = 116) (h : o < 94 ∨ o = 95 ∨ o = 100 ∨ o = 101 ∨ (122 ≤ o ∧ o ≠ 126 ∧ o ≠ 129)) : o ∉ SRb u ++ [106, 107, 126, 129] := by
  unfold SRb
  simp
  omega
theorem pow_pos2 (k : Nat) : (0 : Int) < 2 ^ k := Int.pow_pos (by decide)
section KgP
variable {ω : q_W} {n p q s u m : Nat} {σ : q_H} {P : q_H → Prop}
/-- the PROGRAM that is built -/
theorem PG_new {σx τ : q_H} {T : Nat} {X : Nat → Nat → q_PR} {rD : Except Nat (Nat × q_Ds)} {rS : q_SR} {t' : Nat} {D' : q_Ds} {t'' : Nat} {sm : q_Sm} (hq : q = 16 ∨ q = 29) (hu : u = 110 ∨ u = 116) (hP : PB q T m X rD rS σx) (hr1 : rD = .ok (t', D')) (hr2 : rS = .ok (t'', sm)) (hw15 : sm.2.1 ≤ 1500) (hdp : DP (z σx 4) (q_l σx 6) t' D') (hE : q_E τ) (hF0 : D'.2.2.or sm.2.2.1 = none) (hqs : ∃ s1, QS q s1 s1 σx ∧ HI s1 σx ∧ ENs D'.2.1.length (z σx (q + 3)) sm.1 σx s1)
    (F : frE (SRb u ++ [106, 107, 126, 129]) R94 σx τ) (hg : RG u σx τ D' sm.2.1 sm.2.2.2) (hnd : ND2 (nmI q σx) D'.2.1.length u τ sm.1 sm.2.1) : PG q u τ := by
  have hts := PB_TS hP hr1 hr2 hF0 hdp
  obtain ⟨kt, ⟨hX, hX2⟩, -, hS, -, hG⟩ := hP
  obtain ⟨-, dq, mm, hm⟩ := hS t' D' hr1
  obtain ⟨gp, h11, hls, hit, h7, h8⟩ := hG t' D' t'' sm hr1 hr2
  obtain ⟨s1, qs, qhi, qen⟩ := hqs
  obtain ⟨⟨g0, g2, g31, g30, g26, g27, g28, g29, g62, g63, g55⟩, -, g106, g107, g126, -⟩ := hg
  have pz : ∀ o, q ≤ o → o ≤ q + 12 → z τ o = z σx o := fun o a b => frE_z F (nin_SG hu (by omega))
  obtain ⟨d0, d4, d1, dI, dV⟩ := id dq
  have zq := pz q (by omega) (by omega)
  have z1 := pz (q + 1) (by omega) (by omega)
  have z3 := pz (q + 3) (by omega) (by omega)
  rw [hr2] at hm
  have sok := st_ok (WI := wI6 D' (z σx (q + 1))) (fun j hj => by unfold wI6; rw [if_pos hj]) kt.1 kt.2.2 dq hdp hX hX2 hm
  refine ⟨D', sm.1, sm.2.1, sm.2.2.2, s1, s1, nmI q σx, ⟨hdp.1, hdp.2.1, fun e he => (hdp.2.2.1 e he).1⟩, QS_cong hq qs hE (frE_r F (by unfold R94; omega)) (frE_r F (by unfold R94; omega)) pz (fun o a b => frE_z F (nin_SG hu (by omega))), ?_, ?_, fun j e he => ⟨?_, g106 j e he⟩, fun j e he => ⟨?_, g107 j e he⟩, hnd, ?_, ⟨fun j hj => by rw [g126 j hj]; exact Int.le_refl 0, fun j hj => ?_⟩, ?_, ?_, ?_, ?_, Or.inl g55⟩
  · rw [z1]
    exact PS2_cong ⟨gp, h11, hls, hit, sok⟩ pz
  · rw [zq, g26, g27, g28, g29, g30, d0, d1, d4, h7, h8]
    have e : min sm.2.1 1501 = sm.2.1 := by omega
    rw [e]
    exact ⟨⟨rfl, rfl⟩, ⟨rfl, rfl⟩, ⟨rfl, rfl⟩, ⟨rfl, rfl⟩, rfl, rfl, hw15⟩
  · rw [z1]; exact (dI j e he).1
  · rw [z3]; exact (dV j e he).1
  · rw [z1, z3]; exact nm_25 dq hdp
  · have := hdp.1
    rw [g126 j (by omega)]; exact pow_pos2 _
  · rw [g62]
    exact ⟨by decide, Int.lt_of_lt_of_le (by decide) (Int.le_of_lt (pow_pos2 _))⟩
  · rw [z1, z3]; exact hts
  · exact HI_z (fun o a b => frE_z F (nin_SG hu (by omega))) qhi
  · rw [z3]
    have cc : ∀ o, o < 94 → z τ o = z σx o := fun o a => frE_z F (nin_SG hu (by omega))
    exact ENs_cong qen (cc 48 (by decide)) (cc 51 (by decide)) (cc 52 (by decide)) (cc 53 (by decide)) (cc 54 (by decide)) (cc 61 (by decide)) (cc 62 (by decide)) (cc 63 (by decide))
/-- the reference's half, after the class's good build -/
theorem kb_good {σx : q_H} {T : Nat} {X : Nat → Nat → q_PR} {rD : Except Nat (Nat × q_Ds)} {rS : q_SR} (hB : Bas n p q s u m σ) (hE : q_E σx) (hn : q_n σx = q_n σ) (hP : PB q T m X rD rS σx) (h9 : (bO (z σx 5) m rD rS).1 = 0) (hTK : TKi (z σ 3) m σx (T + 1)) (hsT : sp (z σ 3) m T = m)
    (r1 : q_r σx 1 2 = q ∧ q_r σx 1 3 = p) (hr : q_r σx 94 = q_r σ 94) (hz : ∀ o, o ≤ 132 → 70 ≤ o → z σx o = z σ o) (hz3 : z σx (p + 3) = z σ (p + 3)) (hl : q_l σx 7 = q_l σ 7) (h1 : z σx 1 4 = 1 ∧ z σx 1 5 = z σ 1 5 ∧ z σx 1 6 = z σ 1 6) (h22 : z σx 2 2 = 0) (hw : WD q σx) (h42 : ∀ j, j < 12 → z σx 42 j = 0 ∧ z σx 44 j = 0) (h43 : z σx 43 1 = -1) (h47 : z σx 47 5 = 0) (h47' : ∀ k, k ≠ 5 → z σx 47 k = z σ 47 k) (h508 : z σx 50 8 = z σ 50 8) (hqs : ∀ t' D' t'' sm, rD = .ok (t', D') → rS = .ok (t'', sm) → ∃ s1, QS q s1 s1 σx ∧ HI s1 σx ∧ ENs D'.2.1.length (z σx (q + 3)) sm.1 σx s1) (hout : q_l σx 132 0 = (zI (z σx q 7)).toInt64)
    (kg : ∀ τ, Bas (n + 1) q p u s 0 τ → z τ 1 4 = 1 → (∀ j, j < 12 → z τ 42 j = 0 ∧ z τ 44 j = 0) → z τ 43 1 = -1 → z τ 47 5 = 0 → (∀ j, j < 16 → z τ 126 j = 0 ∧ z τ 129 j = 0) → z τ 94 62 = -1 ∧ z τ 94 63 = -1 → (∀ o, o ∈ [71, 75, 91, 125] → z τ o = z σ o) → (∀ k, k ≠ 5 → z τ 47 k = z σ 47 k) → z τ 50 8 = z σ 50 8 → P τ) :
    J ω m_M_build 2000 0 0 0 0 0 [(0, .ref 94)] [] σx (fun r2 τ2 => ∃ bv : Int32, r2 = .inl (some (.int bv)) ∧ q_E τ2 ∧ q_i τ2 94 0 = 0 ∧ ((0 : Int32) = 0 → q_l τ2 132 0 = bv.toInt64) ∧ P τ2) := by
  obtain ⟨⟨bE, bn⟩, ⟨b12, b13, hpq⟩, bw, ⟨bw1, bw2⟩, b84, b47, ⟨t1, t2, t3, t4⟩, bV, b65, ⟨bf1, bf2⟩, bt⟩ := id hB
  have hq : q = 16 ∨ q = 29 := by omega
  have hp : p = 16 ∨ p = 29 := by omega
  have n94 : z σx 94 = z σ 94 := hz 94 (by decide) (by decide)
  have Vx : RV s u σx := RV_c bV hr hE
  have hs := bV.1.1.1
  have hu := bV.2.1.1
  have ne := bV.2.2
  refine j_mono (fun r τ h => ?_) (r_build (f := z σ 3) (Kk := fun v τ2 => q_E τ2 ∧ z τ2 94 0 = 0 ∧ q_l τ2 132 0 = (zI v).toInt64 ∧ P τ2) (by omega) Vx t2 (by rw [n94]; exact t3) (fun j hj => by rw [hz 95 (by decide) (by decide)]; exact (t4 j hj).1) (fun j hj => (t4 j hj).2) hTK hsT hq hP (fun τ V F o0 o2 o50 o51 ok c => absurd h9 c) (fun τ t' D' t'' sm hr1 hr2 hF hw15 hdp V F hg hnd => ?_))
  · obtain ⟨v, vR, e, h2, h3, h4, h5⟩ := h
    exact ⟨zI v, e, h2, by rw [q_of_z h3, zI_0], fun _ => h4, h5⟩
  · have zz : ∀ o, (o < 94 ∨ o = 95 ∨ o = 100 ∨ o = 101 ∨ (122 ≤ o ∧ o ≠ 126 ∧ o ≠ 129)) → z τ o = z σx o := fun o ho => frE_z F (nin_SG hu ho)
    obtain ⟨⟨g0, g2, g31, g30, g26, g27, g28, g29, g62, g63, g55⟩, gk, g106, g107, g126, g129⟩ := id hg
    have h7 := (hP.2.2.2.2.2 t' D' t'' sm hr1 hr2).2.2.2.2.1
    have k65 : z τ 94 65 = z σx 94 65 := gk 65 (by decide)
    have k50 : z τ 94 50 = z σx 94 50 := gk 50 (by decide)
    have k51 : z τ 94 51 = z σx 94 51 := gk 51 (by decide)
    have rr : ∀ o k, o ≠ 94 → q_r τ o k = q_r σx o k := fun o k h => frE_r F (fun c => h c.1)
    have pg := PG_new hq hu hP hr1 hr2 hw15 hdp V.1.2 hF (hqs t' D' t'' sm hr1 hr2) F hg hnd
    have wq : WD q τ := fun i hi => by rw [zz (q + 3) (by omega)]; exact hw i hi
    have wp : WD p σ := by rcases hpq with ⟨a, -⟩ | ⟨a, -⟩ <;> (rw [a]; assumption)
    have wp' : WD p τ := fun i hi => by rw [zz (p + 3) (by omega), hz3]; exact wp i hi
    refine ⟨V.1.2, g0, by rw [frE_l F (nin_SG hu (by omega)), hout, h7], kg τ ⟨⟨V.1.2, by rw [F.1, hn]; omega⟩, ⟨by rw [rr 1 2 (by decide)]; exact r1.1, by rw [rr 1 3 (by decide)]; exact r1.2, by omega⟩, fun j hj => by rw [frE_l F (nin_SG hu (by omega)), hl]; exact bw j hj, ?_, fun g => by rw [zz 84 (by decide), hz 84 (by decide) (by decide)]; exact b84 g, Or.inl (by rw [zz 47 (by decide)]; exact h47), ⟨by rw [zz 2 (by decide)]; exact h22, by omega, g2, fun j hj => absurd hj (by omega)⟩, V, by rw [k65, n94]; exact b65, ⟨by rw [zz 1 (by decide), h1.2.1, k50, n94]; exact bf1, by rw [zz 1 (by decide), h1.2.2, k51, n94]; exact bf2⟩, Or.inr ⟨by rw [zz 1 (by decide)]; exact h1.1, g31, pg⟩⟩ (by rw [zz 1 (by decide)]; exact h1.1) (fun j hj => by rw [zz 42 (by decide), zz 44 (by decide)]; exact h42 j hj) (by rw [zz 43 (by decide)]; exact h43) (by rw [zz 47 (by decide)]; exact h47) (fun j hj => ⟨g126 j hj, g129 j hj⟩) ⟨g62, g63⟩ (fun o ho => ?_) (fun k hk => by rw [zz 47 (by decide)]; exact h47' k hk) (by rw [zz 50 (by decide)]; exact h508)⟩
    · rcases hpq with ⟨a, b⟩ | ⟨a, b⟩
      · rw [a] at wp'; rw [b] at wq; exact ⟨wp', wq⟩
      · rw [a] at wp'; rw [b] at wq; exact ⟨wq, wp'⟩
    · simp only [List.mem_cons, List.not_mem_nil, or_false] at ho
      rw [zz o (by omega), hz o (by omega) (by omega)]
end KgP
