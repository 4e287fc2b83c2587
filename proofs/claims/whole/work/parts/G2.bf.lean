/-! The class reads a TEXT whole: from begin to conclude -/
section BfP
variable {ω : q_W} {d T p q n : Nat} {σ : q_H}
theorem h_parse {Q : q_R → q_H → Prop} (hd : 10 ≤ d) (hp : p = 16 ∨ p = 29) (hq : q = 16 ∨ q = 29) (r12 : q_r σ 1 2 = p) (r13 : q_r σ 1 3 = q) (hE : q_E σ) (ks : KT T σ ∧ KS T σ ∧ z σ 4 T = 46) (h8 : z σ 2 8 = 0) (h22 : z σ 2 2 = (n : Int)) (hw : WD q σ)
    (kk : ∀ τ X rD rS, PB q T n X rD rS τ → q_E τ → frE (SPq q) R8 σ τ → (∀ k, k ≠ 8 → z τ 2 k = z σ 2 k) → WD q τ → J ω m_H_build (d + 1) 1 6 0 0 54 [(0, .ref 1)] [] τ Q) : J ω m_H_build (d + 1) 1 6 0 0 7 [(0, .ref 1)] [] σ Q := by
  have r1 : ∀ {τ : q_H}, frE (SPq q) R8 σ τ → q_r τ 1 2 = p ∧ q_r τ 1 3 = q := fun {τ} F => ⟨by rw [frE_r F (by unfold R8; omega)]; exact r12, by rw [frE_r F (by unfold R8; omega)]; exact r13⟩
  have n4 : 4 ∉ SPq q := by unfold SPq; simp; omega
  have n5 : 5 ∉ SPq q := by unfold SPq; simp; omega
  have n6 : 6 ∉ SPq q := by unfold SPq; simp; omega
  refine b_H_build_7 (mc := 0) (ms := 0) hp r12 hq r13 hE (h_begin (by omega) hq hE ks h8 hw (fun σ1 hx1 hq1 F1 t2 t4 t5 l6 e7 e8 q7 q8 q11 q17 => ?_))
  obtain ⟨a12, a13⟩ := r1 F1
  obtain ⟨⟨⟨E1, s0, s1⟩, -⟩, -⟩ := id hx1
  have ks1 : KT T σ1 ∧ KS T σ1 ∧ z σ1 4 T = 46 := by
    unfold KT KS; rw [t2, t4, t5, l6]; exact ks
  obtain ⟨d, rfl⟩ : ∃ k, d = k + 1 := ⟨d - 1, by omega⟩
  obtain ⟨rD, hD⟩ := pD_ends (K := z σ1 4) (v := fun i => zL (q_l σ1 6 i)) (C := q_l σ1 6) ks1.2.2 (T + 1) 0 ([], [], none) (by omega) (by omega)
  -- conclude, when the TEXT is BAD at y
  have bad : ∀ (ρ : q_H) (y : Nat) (X : Nat → Nat → q_PR) (rS : q_SR), DX T q σ1 ρ ∨ (∃ τ h' N', DX T q σ1 τ ∧ PX T q τ ρ h' N') → z ρ 2 8 = (y : Int) → (XO X (z ρ 4) (nmI q ρ) (nmB q ρ) T ∧ ∀ dp t, T < t → X dp t = .error t) → (∀ t' D', rD = .ok (t', D') → t' ≤ T ∧ DQt q (q_l ρ 6) D' ρ ∧ ∃ m, pS X (z ρ 4) (nmI q ρ) (nmB q ρ) D'.2.1.length m (some ([], 0, none, 0)) 0 0 0 0 t' = some rS) → bO (z σ1 5) n rD rS = (1, z σ1 5 y) → (∀ t' D' t'' sm, rD = .ok (t', D') → rS ≠ .ok (t'', sm)) → J ω m_H_build (d + 1 + 1) 1 6 0 0 51 [(0, .ref 1)] [.int (zI 0), .ref 8] ρ Q := fun ρ y X rS hx hy hX hS hB hn => by
    have hF : frE (SPq q) R8 σ1 ρ ∧ (∀ k, k ≠ 8 → z ρ 2 k = z σ1 2 k) ∧ WD q ρ ∧ q_E ρ ∧ q_r ρ 8 0 = 2 ∧ q_r ρ 8 1 = q ∧ (0 ≤ z ρ 2 8 ∧ z ρ 2 8 ≤ T) := by
      rcases hx with hx | ⟨τ, h', N', hx, hx2⟩
      · obtain ⟨⟨⟨a, b, c⟩, -, -, e, -⟩, f, g, -, -, -, w⟩ := id hx
        exact ⟨frE_of f (fun x hx => by unfold SPq; simp at hx ⊢; omega), g, w, a, b, c, e⟩
      · obtain ⟨-, f, g, -, -, -, w⟩ := id hx
        obtain ⟨⟨⟨a, b, c⟩, -, -, e, -⟩, f2, g2, -⟩ := id hx2
        refine ⟨frE_trans (frE_of f (fun x hx => by unfold SPq; simp at hx ⊢; omega)) (frE_of f2 (fun x hx => by unfold SSt at hx; unfold SPq; simp at hx ⊢; omega)), fun k hk => (g2 k hk).trans (g k hk), ?_, a, b, c, e⟩
        intro i hi; rw [fr_zF f2 (by unfold SSt; simp; omega)]; exact w i hi
    obtain ⟨F2, g2, w2, E2, b0, b1, b8⟩ := hF
    have F3 := frE_trans F1 F2
    obtain ⟨c12, c13⟩ := r1 F3
    have T4 := ks1.1.1
    have u4 : z ρ 4 = z σ1 4 := frE_z F2 n4
    have u5 : z ρ 5 = z σ1 5 := frE_z F2 n5
    have u6 : q_l ρ 6 = q_l σ1 6 := frE_l F2 n6
    refine b_H_build_51 (mc := 0) (ms := 0) hp c12 hq c13 E2 (b_Pa_conclude_0 hq b0 b1 E2 ⟨⟨by decide, by decide⟩, fun c => absurd rfl c, fun _ => ⟨⟨by omega, by omega⟩, rfl, ?_⟩⟩)
    rw [hy, Int.toNat_natCast, u5]
    have ksρ : KT T ρ ∧ KS T ρ ∧ z ρ 4 T = 46 := by
      unfold KT KS; rw [g2 4 (by decide), u4, u5, u6]; exact ks1
    have nm := nm_note (p := q) (σ := ρ) (x := 1) (y := z σ1 5 y) hq
    have o : ∀ a, a ≠ q → z (zs (zs ρ q 9 1) q 10 (z σ1 5 y)) a = z ρ a := fun a h => (z_oF h).trans (z_oF h)
    have x9 : z (zs (zs ρ q 9 1) q 10 (z σ1 5 y)) q 9 = 1 := by rw [z_k (by decide), z_s ⟨by decide, by decide⟩]
    have x10 : z (zs (zs ρ q 9 1) q 10 (z σ1 5 y)) q 10 = z σ1 5 y := z_s (z_R _ _ _)
    refine kk _ X rD rS ⟨KT_note hq ksρ, ?_, ?_, fun t' D' hr => ?_, ?_, fun t' D' t'' sm hr hs => absurd hs (hn t' D' t'' sm hr)⟩ (zs_E (zs_E E2)) ?_ ?_ ?_
    · rw [nm.1, nm.2, o 4 (by omega)]; exact hX
    · show pD (z (zs (zs ρ q 9 1) q 10 (z σ1 5 y)) 4) (fun i => zL (q_l ρ 6 i)) (q_l ρ 6) (T + 1) 0 ([], [], none) = some rD
      rw [o 4 (by omega), u4, u6]; exact hD
    · obtain ⟨a, b, m, hm⟩ := hS t' D' hr
      exact ⟨a, DQt_note hq b, m, by rw [nm.1, nm.2, o 4 (by omega)]; exact hm⟩
    · rw [o 5 (by omega), u5, hB, x9, x10]; exact ⟨rfl, fun _ => rfl⟩
    · exact frE_trans F3 (frE_of (T := SPq q) (fr_s (fr_s fr_refl (show q ∈ SPq q by unfold SPq; simp)) (show q ∈ SPq q by unfold SPq; simp)) (fun x hx => hx))
    · intro k hk; rw [o 2 (by omega), g2 k hk, t2]
    · intro i hi; rw [o (q + 3) (by omega)]; exact w2 i hi
  refine b_H_build_22 (mc := 0) (ms := 0) hp a12 hq a13 E1 (b_Pa_declarations_0 hq s0 s1 E1 (w_declarations (σ0 := σ1) (r := rD) (by omega) hq (fun y hr τ hx e => ?_) (fun t' D' hr τ hx hq2 => ?_) (T + 1) 0 0 ([], [], none) σ1 hD hx1 hq1 (Nat.le_refl _)))
  · -- a DECLARATION is BAD
    have F2 : frE (SPq q) R8 σ1 τ := frE_of hx.2.1 (fun x hx => by unfold SPq; simp at hx ⊢; omega)
    obtain ⟨c12, c13⟩ := r1 (frE_trans F1 F2)
    obtain ⟨⟨⟨E2, -⟩, -⟩, -⟩ := id hx
    obtain ⟨X, hX, hX2⟩ := XO_ex2 (K := z τ 4) (N := nmI q τ) (B := nmB q τ) (T := T) (by rw [frE_z F2 n4]; exact ks1.2.2)
    refine b_H_build_33 (mc := 0) (ms := 0) hp c12 hq c13 E2 ⟨⟨by decide, by decide⟩, fun _ => bad τ y X (.error 0) (Or.inl hx) e ⟨hX, hX2⟩ (fun t' D' h => by rw [hr] at h; cases h) (by rw [hr]; rfl) (fun t' D' t'' sm h => by rw [hr] at h; cases h), fun c => absurd rfl c⟩
  · obtain ⟨hb, f, g2, gp, b1, bsm, bw⟩ := id hx
    have F2 : frE (SPq q) R8 σ1 τ := frE_of f (fun x hx => by unfold SPq; simp at hx ⊢; omega)
    obtain ⟨c12, c13⟩ := r1 (frE_trans F1 F2)
    have E2 := hb.1.1
    have u4 : z τ 4 = z σ1 4 := frE_z F2 n4
    have u5 : z τ 5 = z σ1 5 := frE_z F2 n5
    have u6 : q_l τ 6 = q_l σ1 6 := frE_l F2 n6
    have u8 : z τ 8 = z σ1 8 := fr_zF f (by simp; omega)
    have ksτ : KT T τ ∧ KS T τ ∧ z τ 4 T = 46 := by
      unfold KT KS; rw [g2 4 (by decide), u4, u5, u6]; exact ks1
    obtain ⟨X, hX, hX2⟩ := XO_ex2 (K := z τ 4) (N := nmI q τ) (B := nmB q τ) (T := T) ksτ.2.2
    have tT : t' ≤ T := by have := hq2.1; have := hb.2.2.2.1; omega
    obtain ⟨rS, ⟨m, hm⟩, -⟩ := pS_ends (V := D'.2.1.length) ksτ.2.2 hX (2 * (T - t') + 1) (some ([], 0, none, 0)) 0 0 0 0 t' tT (by simp)
    have hm1 := hm m (Nat.le_refl _)
    have px : PX T q τ τ 0 0 := PX_0 hq ksτ.2.1 hb (by rw [u8]; exact e7) (by rw [u8]; exact e8) (by rw [gp 7 (by decide) (by decide) (by decide) (by decide) (by decide)]; exact q7) (by rw [gp 8 (by decide) (by decide) (by decide) (by decide) (by decide)]; exact q8) (by rw [gp 11 (by decide) (by decide) (by decide) (by decide) (by decide)]; exact q11)
    have hF := hq2.2.2.2.2.2.2
    have aq : AQ q (z τ 5) (t', [], [], 0, 0, D'.2.2) τ := ⟨hq2.1, trivial, trivial, ⟨by rw [gp 17 (by decide) (by decide) (by decide) (by decide) (by decide)]; exact q17, fun i x h => by simp [itF] at h⟩, by rw [gp 7 (by decide) (by decide) (by decide) (by decide) (by decide)]; exact q7, by rw [gp 8 (by decide) (by decide) (by decide) (by decide) (by decide)]; exact q8, by rw [u5]; exact hF⟩
    refine b_H_build_33 (mc := 0) (ms := 0) hp c12 hq c13 E2 ⟨⟨by decide, by decide⟩, fun c => absurd c (by decide), fun _ => w_statements (σ0 := τ) (by omega) hq ksτ.2.1 ksτ.2.2 hX hq2.2.2.1 px aq hm1 (fun ρ x h' N' hr2 hx2 e => ?_) (fun ρ t'' sm hr2 hx2 aq2 hB0 => ?_)⟩
    · -- a STATEMENT is BAD
      have nm := nm_PX hq hx2
      obtain ⟨⟨⟨E3, -⟩, -⟩, f2, -, gp2, -⟩ := id hx2
      have v4 : z ρ 4 = z τ 4 := fr_zF f2 (by unfold SSt; simp; omega)
      have v6 : q_l ρ 6 = q_l τ 6 := (f2.2.2.2 6 (by unfold SSt; simp; omega)).2
      obtain ⟨e12, e13⟩ := r1 (frE_trans (frE_trans F1 F2) (frE_of (T := SPq q) f2 (fun x hx => by unfold SSt at hx; unfold SPq; simp at hx ⊢; omega)))
      refine b_H_build_43 (mc := 0) (ms := 0) hp e12 hq e13 E3 ⟨⟨by decide, by decide⟩, fun _ => bad ρ x X rS (Or.inr ⟨τ, h', N', hx, hx2⟩) e ⟨by rw [nm.1, nm.2.1, v4]; exact hX, hX2⟩ (fun t2 D2 h => ?_) (by rw [hr, hr2]; rfl) (fun _ _ _ _ _ h => by rw [hr2] at h; cases h), fun c => absurd rfl c⟩
      rw [hr] at h
      cases h
      refine ⟨tT, ?_, m, by rw [nm.1, nm.2.1, v4]; exact hm1⟩
      have dq := DQ_t2 hq2
      have z1 : z ρ (q + 1) = z τ (q + 1) := fr_zF f2 (by unfold SSt; simp; omega)
      have z3 : z ρ (q + 3) = z τ (q + 3) := fr_zF f2 (by unfold SSt; simp; omega)
      have l2 : q_l ρ (q + 2) = q_l τ (q + 2) := (f2.2.2.2 (q + 2) (by unfold SSt; simp; omega)).2
      have l4 : q_l ρ (q + 4) = q_l τ (q + 4) := (f2.2.2.2 (q + 4) (by unfold SSt; simp; omega)).2
      unfold DQt at dq ⊢
      rw [z1, z3, l2, l4, v6, u6, gp2 0 (by decide) (by decide) (by decide) (by decide) (by decide) (by decide), gp2 1 (by decide) (by decide) (by decide) (by decide) (by decide) (by decide), gp2 4 (by decide) (by decide) (by decide) (by decide) (by decide) (by decide)]
      exact dq
    · -- all is read
      have nm := nm_PX hq hx2
      obtain ⟨⟨⟨E3, b0, b1'⟩, -⟩, f2, g22, gp2, -, h11, h8w, -⟩ := id hx2
      have gpρ : GP q ρ := GP_of hq ksτ.2.1 hx2 b1 bsm bw
      have v4 : z ρ 4 = z τ 4 := fr_zF f2 (by unfold SSt; simp; omega)
      have v5 : z ρ 5 = z τ 5 := fr_zF f2 (by unfold SSt; simp; omega)
      have v6 : q_l ρ 6 = q_l τ 6 := (f2.2.2.2 6 (by unfold SSt; simp; omega)).2
      have F3 : frE (SPq q) R8 σ ρ := frE_trans (frE_trans F1 F2) (frE_of (T := SPq q) f2 (fun x hx => by unfold SSt at hx; unfold SPq; simp at hx ⊢; omega))
      obtain ⟨e12, e13⟩ := r1 F3
      have k2 : ∀ k, k ≠ 8 → z ρ 2 k = z σ 2 k := fun k hk => by rw [g22 k hk, g2 k hk, t2]
      have w2 : WD q ρ := gpρ.2.2.2.2.2.2.2
      have ksρ : KT T ρ ∧ KS T ρ ∧ z ρ 4 T = 46 := by
        unfold KT KS; rw [g22 4 (by decide), v4, v5, v6]; exact ksτ
      have dqρ : DQt q (q_l ρ 6) D' ρ := by
        have dq := DQ_t2 hq2
        have z1 : z ρ (q + 1) = z τ (q + 1) := fr_zF f2 (by unfold SSt; simp; omega)
        have z3 : z ρ (q + 3) = z τ (q + 3) := fr_zF f2 (by unfold SSt; simp; omega)
        have l2 : q_l ρ (q + 2) = q_l τ (q + 2) := (f2.2.2.2 (q + 2) (by unfold SSt; simp; omega)).2
        have l4 : q_l ρ (q + 4) = q_l τ (q + 4) := (f2.2.2.2 (q + 4) (by unfold SSt; simp; omega)).2
        unfold DQt at dq ⊢
        rw [z1, z3, l2, l4, v6, u6, gp2 0 (by decide) (by decide) (by decide) (by decide) (by decide) (by decide), gp2 1 (by decide) (by decide) (by decide) (by decide) (by decide) (by decide), gp2 4 (by decide) (by decide) (by decide) (by decide) (by decide) (by decide)]
        exact dq
      obtain ⟨-, -, aS, aI, a7, a8, aF⟩ := aq2
      dsimp only at aS aI a7 a8 aF
      have hDρ : pD (z ρ 4) (fun i => zL (q_l ρ 6 i)) (q_l ρ 6) (T + 1) 0 ([], [], none) = some rD := by rw [v4, v6, u4, u6]; exact hD
      have hSρ : ∀ t2 D2, rD = .ok (t2, D2) → t2 ≤ T ∧ DQt q (q_l ρ 6) D2 ρ ∧ ∃ m, pS X (z ρ 4) (nmI q ρ) (nmB q ρ) D2.2.1.length m (some ([], 0, none, 0)) 0 0 0 0 t2 = some rS := fun t2 D2 h => by
        rw [hr] at h
        cases h
        exact ⟨tT, dqρ, m, by rw [nm.1, nm.2.1, v4]; exact hm1⟩
      have hGρ : ∀ t2 D2 t3 s2, rD = .ok (t2, D2) → rS = .ok (t3, s2) → GP q ρ ∧ z ρ q 11 = (s2.1.length : Int) ∧ lsS (z ρ (q + 5)) (z ρ (q + 6)) (z ρ (q + 9)) (z ρ (q + 7)) (z ρ (q + 8)) s2.1 0 0 ∧ (z ρ q 17 = ((itF s2.1).length : Int) ∧ lsI (itF s2.1) (z ρ (q + 10)) (z ρ (q + 11)) (z ρ (q + 12))) ∧ z ρ q 7 = (s2.2.2.2 : Int) ∧ z ρ q 8 = ((min s2.2.1 1501 : Nat) : Int) := fun t2 D2 t3 s2 h1 h2 => by
        rw [hr2] at h2
        cases h2
        exact ⟨gpρ, h11, aS, aI, a7, a8⟩
      have hB : bO (z ρ 5) n rD rS = (match D'.2.2.or sm.2.2.1 with | some y => (y.1, z ρ 5 y.2) | none => if 1500 < sm.2.1 then (7, (n : Int)) else (0, -1)) := by rw [hr, hr2]; rfl
      refine b_H_build_43 (mc := 0) (ms := 0) hp e12 hq e13 E3 ⟨⟨by decide, by decide⟩, fun c => absurd c (by decide), fun _ => b_H_build_51 (mc := 0) (ms := 0) hp e12 hq e13 E3 (b_Pa_conclude_0 hq b0 b1' E3 ⟨⟨by decide, by decide⟩, fun _ => ⟨fun c => ⟨rfl, ?_⟩, fun c => ?_⟩, fun c => absurd c (by decide)⟩)⟩
      · refine kk ρ X rD rS ⟨ksρ, ⟨by rw [nm.1, nm.2.1, v4]; exact hX, hX2⟩, hDρ, hSρ, ?_, hGρ⟩ E3 F3 k2 w2
        rw [hB]
        cases hf : D'.2.2.or sm.2.2.1 with
        | none =>
          rw [hf] at aF
          have aF' : z ρ q 9 = 0 := aF
          dsimp only
          rw [if_neg (by omega)]
          exact ⟨aF', fun h => absurd aF' h⟩
        | some y =>
          rw [hf] at aF
          obtain ⟨f1, f2', f3⟩ := aF
          exact ⟨f1, fun _ => by rw [f3, v5]⟩
      · have n8 : ∀ π, q_E π → q_r π 8 0 = 2 → q_r π 8 1 = q → J ω m_H_build (d + 1 + 1) 1 6 0 0 54 [(0, .ref 1)] [] π Q → J ω m_Pa_conclude (d + 1) 0 0 0 0 58 [] [] π (q_kv fun τ => J ω m_H_build (d + 1 + 1) 1 6 0 0 54 [(0, .ref 1)] [] τ Q) := fun π h1 h2 h3 h4 => b_Pa_conclude_58 hq h2 h3 h1 ⟨rfl, h4⟩
        have e22 : z ρ 2 2 = (n : Int) := by rw [k2 2 (by decide)]; exact h22
        rw [e22]
        refine f_note hq E3 (fun h9 => n8 ρ E3 b0 b1' ?_) (fun h9 => n8 _ (zs_E (zs_E E3)) b0 b1' ?_)
        · refine kk ρ X rD rS ⟨ksρ, ⟨by rw [nm.1, nm.2.1, v4]; exact hX, hX2⟩, hDρ, hSρ, ?_, hGρ⟩ E3 F3 k2 w2
          rw [hB]
          cases hf : D'.2.2.or sm.2.2.1 with
          | none =>
            rw [hf] at aF
            exact absurd aF h9
          | some y =>
            rw [hf] at aF
            obtain ⟨f1, f2', f3⟩ := aF
            exact ⟨f1, fun _ => by rw [f3, v5]⟩
        · have nmn := nm_note (p := q) (σ := ρ) (x := 7) (y := (n : Int)) hq
          have o : ∀ a, a ≠ q → z (zs (zs ρ q 9 7) q 10 (n : Int)) a = z ρ a := fun a h => (z_oF h).trans (z_oF h)
          have s : ∀ j, j ≠ 9 → j ≠ 10 → z (zs (zs ρ q 9 7) q 10 (n : Int)) q j = z ρ q j := fun j h g => (z_k g).trans (z_k h)
          have nR : inR (n : Int) := by rw [← e22]; exact z_R _ _ _
          refine kk _ X rD rS ⟨KT_note hq ksρ, ⟨by rw [nmn.1, nmn.2, nm.1, nm.2.1, o 4 (by omega), v4]; exact hX, hX2⟩, ?_, fun t2 D2 h => ?_, ?_, fun t2 D2 t3 s2 h1 h2 => ?_⟩ (zs_E (zs_E E3)) (frE_trans F3 (frE_of (T := SPq q) (fr_s (fr_s fr_refl (show q ∈ SPq q by unfold SPq; simp)) (show q ∈ SPq q by unfold SPq; simp)) (fun x hx => hx))) ?_ ?_
          · rw [o 4 (by omega)]; exact hDρ
          · obtain ⟨a, b, m', hm'⟩ := hSρ t2 D2 h
            exact ⟨a, DQt_note hq b, m', by rw [nmn.1, nmn.2, o 4 (by omega)]; exact hm'⟩
          · rw [o 5 (by omega), hB]
            cases hf : D'.2.2.or sm.2.2.1 with
            | none =>
              dsimp only
              rw [if_pos (by omega), z_k (by decide), z_s ⟨by decide, by decide⟩, z_s nR]
              exact ⟨rfl, fun _ => rfl⟩
            | some y =>
              rw [hf] at aF
              exact absurd h9 (by have := aF.2.1; exact this)
          · obtain ⟨x1, x2, x3, x4, x5, x6⟩ := hGρ t2 D2 t3 s2 h1 h2
            refine ⟨GP_note hq x1, by rw [s 11 (by decide) (by decide)]; exact x2, ?_, ?_, by rw [s 7 (by decide) (by decide)]; exact x5, by rw [s 8 (by decide) (by decide)]; exact x6⟩
            · rw [o (q + 5) (by omega), o (q + 6) (by omega), o (q + 7) (by omega), o (q + 8) (by omega), o (q + 9) (by omega)]; exact x3
            · rw [s 17 (by decide) (by decide), o (q + 10) (by omega), o (q + 11) (by omega), o (q + 12) (by omega)]; exact x4
          · intro k hk; rw [o 2 (by omega)]; exact k2 k hk
          · intro i hi; rw [o (q + 3) (by omega)]; exact w2 i hi
end BfP
