/-! THE PARSER, safety: if, while, blocks, all STATEMENTS -/
section SvP
variable {ω : q_W} {d T p h N : Nat} {σ0 σ ρ : q_H}
theorem y_loopNumber {K : Int → q_H → Prop} {x1 : Int} (hd : 2 ≤ d) (hp : p = 16 ∨ p = 29) (ks : KS T σ0) (hx : PX T p σ0 σ h N) (i1 : inR x1) (hb : 5 * ((N : Int) + cn (z σ 9) h) + 3 ≤ 2 * z σ0 5 (z σ 2 8).toNat)
    (hB : B0 p σ N) (k0 : ∀ τ, PX T p σ0 τ h N → K 0 τ) (kk : z σ 4 (z σ 2 8).toNat = 23 → ∀ τ, PX T p σ0 τ h (N + 1) → z τ 2 8 = z σ 2 8 + 1 → z τ 9 = z σ 9 → z τ p 17 = z σ p 17 → K 1 τ) : J ω m_Pa_loopNumber d 0 0 0 0 0 [(0, .ref 8), (1, .int (zI x1))] [] σ (q_ki K) := by
  obtain ⟨d, rfl⟩ : ∃ k, d = k + 1 := ⟨d - 1, by omega⟩
  have hcc := PX_c hx
  obtain ⟨⟨⟨hE, r0, r1⟩, -⟩, -⟩ := id hx
  refine b_Pa_loopNumber_0 hp r0 r1 hE ⟨⟨by omega, by omega⟩, y_accept (by omega) hp ks hx ⟨by decide, by decide⟩ (by decide) (b_Pa_loopNumber_14 hp r0 r1 hE ⟨⟨by decide, by decide⟩, fun c => absurd rfl c, fun _ => ⟨0, ⟨by decide, by decide⟩, rfl, k0 σ hx⟩⟩) (fun k23 τ e ht e2 e3 => ?_)⟩
  have go : ∀ π, PX T p σ0 π h N → z π 2 8 = z σ 2 8 + 1 → z π 9 = z σ 9 → z π p 17 = z σ p 17 → z π (p + 5) = z σ (p + 5) → J ω m_Pa_loopNumber (d + 1) 0 0 0 0 34 [(0, .ref 8), (1, .int (zI x1))] [] π (q_ki K) := by
    intro π hπ p2 p9 p17 p5
    have hn := PX_N ks hπ
    obtain ⟨⟨⟨hE3, r03, r13⟩, -, -, -, ⟨i17, i18, -⟩⟩, -, -, -, ⟨h7, h31, h8⟩, hN, hw, hs⟩ := id hπ
    have eN : (z π p 11).toNat = N := by omega
    have hcb := cb_bd (z π 9) h
    refine b_Pa_loopNumber_34 hp r03 r13 hE3 (x_addStep hp hE3 ⟨by omega, by omega⟩ ⟨by decide, by decide⟩ i1 (z_R _ _ _) (fun ρ f gp g11 q5 q6 q7 q8 q9 => ?_))
    rw [eN] at q5 q6 q7 q8 q9
    refine b_Pa_loopNumber_51 hp (by rw [fr_r f]; exact r03) (by rw [fr_r f]; exact r13) (fr_E f hE3) ⟨⟨by omega, by omega⟩, 1, ⟨by decide, by decide⟩, rfl, ?_⟩
    have o8 : z ρ 8 8 = z π 8 8 := by rw [fr_zF f (by simp; omega)]
    have u : ∀ a, a ≠ p + 9 → z (zs ρ (p + 9) (z π p 11).toNat (z ρ 8 8)) a = z ρ a := fun a h => z_oF h
    have k := KS_le ks (z σ 2 8).toNat (z π 2 8).toNat (by omega) (by have := PX_c hπ; omega)
    refine kk k23 _ (PX_step (S0 := 0) (g := z ρ 8 8) hp hπ (fr_s f (by simp)) ?_ (fun k k7 k11 => by rw [u p (by omega), gp k k11]) (by rw [u p (by omega)]; omega) (by rw [u _ (by omega)]; exact q5) (by rw [u _ (by omega)]; exact q6) (by rw [u _ (by omega)]; exact q7) (by rw [u _ (by omega)]; exact q8) ?_ (by rw [p9]; omega) (by decide) ⟨i17, Int.le_refl _⟩ (fun c => absurd c (by decide)) (fun c => absurd c (by decide)) (fun _ => by omega) (fun c => ⟨p17.trans (hB.1 c), fun c7 => absurd rfl c7, fun _ => p17.trans (hB.1 c)⟩) (fun c => by rw [p5]; exact hB.2 c)) ?_ ?_ ?_
    · rw [u p (by omega), gp 7 (by decide)]; exact ⟨hn.2.2.1, hn.2.2.2.1⟩
    · rw [z_up (z_R _ _ _), q9, eN, up_up]
    · rw [u 2 (by omega), fr_zF f (by simp; omega)]; exact p2
    · rw [u 9 (by omega), fr_zF f (by simp; omega)]; exact p9
    · rw [u p (by omega), gp 17 (by decide)]; exact p17
  have t9 : z τ 9 = z σ 9 := by rw [e, z_oF (by decide)]
  have t17 : z τ p 17 = z σ p 17 := by rw [e, z_o (by omega)]
  have t5 : z τ (p + 5) = z σ (p + 5) := by rw [e, z_oF (by omega)]
  obtain ⟨⟨⟨hE2, r02, r12⟩, -⟩, -⟩ := id ht
  refine b_Pa_loopNumber_14 hp r02 r12 hE2 ⟨⟨by decide, by decide⟩, fun _ => ⟨i1, fun _ => go τ ht e2 t9 t17 t5, fun _ => x_note hp hE2 (go τ ht e2 t9 t17 t5) (go _ (PX_note hp ht) ?_ ?_ ?_ ?_)⟩, fun c => absurd c (by decide)⟩
  · rw [z_o (by omega), z_o (by omega)]; exact e2
  · rw [z_oF (by omega), z_oF (by omega)]; exact t9
  · rw [z_k (by decide), z_k (by decide)]; exact t17
  · rw [z_oF (by omega), z_oF (by omega)]; exact t5
/-- the step that opens, and what is opened -/
theorem PX_open {x w f0 kd r e : Int} {ρ π : q_H} (hp : p = 16 ∨ p = 29) (hx : PX T p σ0 σ h N) (f : fr [p, p + 5, p + 6, p + 7, p + 8, p + 9] σ ρ) (gp : ∀ k, k ≠ 11 → z ρ p k = z σ p k) (g11 : z ρ p 11 = (N : Int) + 1)
    (q5 : z ρ (p + 5) = up (z σ (p + 5)) N x) (q6 : z ρ (p + 6) = up (z σ (p + 6)) N w) (q7 : z ρ (p + 7) = up (z σ (p + 7)) N f0) (q8 : z ρ (p + 8) = up (z σ (p + 8)) N (z σ p 17)) (q9 : z ρ (p + 9) = up (z σ (p + 9)) N 0)
    (f2 : fr [8, 9, 10, 11, 12, 13] ρ π) (s7 : z π 8 7 = (h : Int) + 1) (s8 : z π 8 8 = cb (up (z σ 9) h kd) (h + 1)) (s9 : z π 9 = up (z ρ 9) h kd) (s10 : z π 10 = up (z ρ 10) h (N : Int)) (s11 : z π 11 = up (z ρ 11) h r) (s12 : z π 12 = up (z ρ 12) h e) (s13 : z π 13 = up (z ρ 13) h 0)
    (hb : 5 * ((N : Int) + 2 + cn (z σ 9) h) ≤ 2 * z σ0 5 (z σ 2 8).toNat) (h30 : h ≤ 30) (hx1 : (x = 4 ∧ kd = 2) ∨ (x = 8 ∧ kd = 4)) (hf : 0 ≤ f0 ∧ f0 ≤ z σ p 17) (hw : x = 8 → 0 ≤ w ∧ w < 32) (hr : 0 ≤ r ∧ r ≤ 255) (he : 0 ≤ e ∧ e ≤ 1501) (hf1 : N = 0 → x = 4 ∧ f0 = 0 ∧ 1 ≤ z σ p 17) (hf2 : N = 1 → z σ (p + 5) 0 = 7 → x = 8 ∧ f0 = 0 ∧ 1 ≤ z σ p 17) : PX T p σ0 π (h + 1) (N + 1) := by
  obtain ⟨-, -, -, -, -, hN, hw0, hs⟩ := id hx
  have o : ∀ a, a ∉ [p, p + 5, p + 6, p + 7, p + 8, p + 9] → z ρ a = z σ a := fun a h => fr_zF f h
  have o2 : ∀ a, a ∉ [8, 9, 10, 11, 12, 13] → z π a = z ρ a := fun a h => fr_zF f2 h
  have op := o2 p (by simp; omega)
  refine PX_mk hp hx (fr_trans (fr_mono f (by simp)) (fr_mono f2 (by simp))) (fun k _ _ k11 => by rw [op]; exact gp k k11) (by omega) (by omega) (by rw [s8, s9, o 9 (by simp; omega)]) (by rw [op]; omega) (by rw [op, gp 8 (by decide)]; exact hw0) ?_
  rw [op, gp 7 (by decide), s9, s10, s11, s12, s13, o2 (p + 5) (by simp; omega), o2 (p + 6) (by simp; omega), o2 (p + 7) (by simp; omega), o2 (p + 8) (by simp; omega), o2 (p + 9) (by simp; omega), o 9 (by simp; omega), o 10 (by simp; omega), o 11 (by simp; omega), o 12 (by simp; omega), o 13 (by simp; omega), q5, q6, q7, q8, q9]
  exact SX_open hs hb (Int.le_refl _) h30 hx1 hf hw hr he hf1 hf2
theorem l_Pa_fork_45 {K : Int → q_H → Prop} {x1 x2 : Int} (hd : 5 ≤ d) (hp : p = 16 ∨ p = 29) (ks : KS T σ0) (hx : PX T p σ0 σ h N) (h30 : h ≤ 30) (hb : 5 * ((N : Int) + cn (z σ 9) h) + 4 ≤ 2 * z σ0 5 (z σ 2 8).toNat) (e1 : x1 = 0 ∨ x1 = 1) (e2 : x1 = 1 → 0 ≤ x2 ∧ x2 ≤ 255) (hB1 : N = 0 → x1 = 0 ∧ z σ p 17 = 0) (hB2 : N = 1 → z σ (p + 5) 0 = 7 → x1 = 1 ∧ z σ p 17 = 0)
    (kk : ∀ v τ h' N', (v = 0 ∨ v = 1) → PX T p σ0 τ h' N' → (v = 1 → B0 p τ N') → K v τ) : J ω m_Pa_fork (d + 1) 0 0 0 0 45 [(0, .ref 8), (1, .int (zI x1)), (2, .int (zI x2))] [] σ (q_ki K) := by
  have hcc := PX_c hx
  obtain ⟨⟨⟨hE, r0, r1⟩, -⟩, -⟩ := id hx
  have zero : ∀ τ h' N', PX T p σ0 τ h' N' → q_ki K (.inl (some (.int (zI 0)))) τ := fun τ h' N' ht => ⟨0, ⟨by decide, by decide⟩, rfl, kk 0 τ h' N' (Or.inl rfl) ht (fun c => absurd c (by decide))⟩
  refine b_Pa_fork_45 hp r0 r1 hE (y_accept (by omega) hp ks hx ⟨by decide, by decide⟩ (by decide) (b_Pa_fork_51 hp r0 r1 hE ⟨⟨by decide, by decide⟩, fun c => absurd rfl c, fun _ => zero σ h N hx⟩) (fun k35 τ e ht t2 t3 => ?_))
  have t9 : z τ 9 = z σ 9 := by rw [e, z_oF (by decide)]
  have hct := PX_c ht
  obtain ⟨⟨⟨hE2, r02, r12⟩, -, -, -, ⟨i1, i9, -⟩⟩, -⟩ := id ht
  refine b_Pa_fork_51 hp r02 r12 hE2 ⟨⟨by decide, by decide⟩, fun _ => x_expression (by omega) hp ht.1 (fun v π he hv => ?_), fun c => absurd c (by decide)⟩
  have hπ := PX_EX hp ks ht he
  have hcp := PX_c hπ
  obtain ⟨⟨⟨hE3, r03, r13⟩, -⟩, -⟩ := id hπ
  obtain ⟨-, b9, -, -, -, -, f1, -, -, -, ⟨j0, j1, j2, -⟩, -⟩ := id he
  have p9 : z π 9 = z σ 9 := by rw [fr_zF b9 (by simp; omega), t9]
  refine b_Pa_fork_74 hp r03 r13 hE3 ⟨⟨by omega, by omega⟩, fun _ => zero π h N hπ, fun c => y_accept (by omega) hp ks hπ ⟨by decide, by decide⟩ (by decide) (b_Pa_fork_88 hp r03 r13 hE3 ⟨⟨by decide, by decide⟩, fun c => absurd rfl c, fun _ => zero π h N hπ⟩) (fun k36 κ e4 hκ a2 a3 => ?_)⟩
  have hv2 : 0 ≤ v ∧ v ≤ 1501 ∧ z τ 2 8 + 1 ≤ z π 2 8 ∧ 0 < z π p 17 := by omega
  have t17 : z τ p 17 = z σ p 17 := by rw [e, z_o (by omega)]
  have k5 : z κ (p + 5) = z σ (p + 5) := by rw [e4, z_oF (by omega), fr_zF b9 (by simp; omega), e, z_oF (by omega)]
  have q9' : z κ 9 = z σ 9 := by rw [e4, z_oF (by decide), p9]
  have q17 : z κ p 17 = z π p 17 := by rw [e4, z_o (by omega)]
  have hck := PX_c hκ
  have hn := PX_N ks hκ
  have k := KS_le ks (z σ 2 8).toNat (z κ 2 8).toNat (by omega) (by omega)
  have hb3 : 5 * ((N : Int) + 2 + cn (z κ 9) h) ≤ 2 * z σ0 5 (z κ 2 8).toNat := by rw [q9']; omega
  obtain ⟨⟨⟨hE4, r04, r14⟩, -, -, -, ⟨l1, l9, -⟩⟩, -, -, -, ⟨h7, h31, h8⟩, hN, -, -⟩ := id hκ
  have eN : (z κ p 11).toNat = N := by omega
  have hcb := cb_bd (z κ 9) h
  refine b_Pa_fork_88 hp r04 r14 hE4 ⟨⟨by decide, by decide⟩, fun _ => ⟨⟨by omega, by omega⟩, fun c0 => ?_, fun c1 => ?_⟩, fun c => absurd c (by decide)⟩
  · refine x_addStep hp hE4 ⟨by omega, by omega⟩ ⟨by decide, by decide⟩ ⟨by decide, by decide⟩ (z_R _ _ _) (fun ρ f gp g11 q5 q6 q7 q8 q9 => ?_)
    rw [eN] at q5 q6 q7 q8 q9
    have fE := fr_E f hE4
    have s0 : q_r ρ 8 0 = 2 := by rw [fr_r f]; exact r04
    have s1 : q_r ρ 8 1 = p := by rw [fr_r f]; exact r14
    have o8 : z ρ 8 = z κ 8 := fr_zF f (by simp; omega)
    refine b_Pa_fork_144 hp s0 s1 fE (x_enter (h := h) hp fE s0 s1 (by rw [o8]; exact h7) (by omega) ⟨by decide, by decide⟩ (z_R _ _ _) ⟨by decide, by decide⟩ ⟨by omega, by omega⟩ (fun ξ f2 y7 y8 y9 y10 y11 y12 y13 => ?_))
    rw [hN] at y10
    have hξ : PX T p σ0 ξ (h + 1) (N + 1) := by
      refine PX_open hp hκ f gp (by omega) q5 q6 q7 q8 q9 f2 y7 ?_ y9 y10 y11 y12 y13 hb3 h30 (Or.inl ⟨rfl, rfl⟩) ⟨by omega, by omega⟩ (fun c => absurd c (by decide)) ⟨by decide, by decide⟩ ⟨by omega, by omega⟩ (fun c => ⟨rfl, by have := hB1 c; omega, by omega⟩) (fun c c7 => by rw [k5] at c7; have := hB2 c c7; omega)
      rw [y8, o8, h8]
      show _ = cb (up (z κ 9) h 2) h + (if up (z κ 9) h 2 h = 4 then 1 else 0)
      rw [cb_up h (Nat.le_refl _), up_s, if_neg (by decide)]; omega
    obtain ⟨⟨⟨hE5, r05, r15⟩, -⟩, -⟩ := id hξ
    exact b_Pa_fork_150 hp r05 r15 hE5 ⟨1, ⟨by decide, by decide⟩, rfl, kk 1 ξ _ _ (Or.inr rfl) hξ (fun _ => ⟨fun c => absurd c (by omega), fun c => by rw [fr_zF f2 (by simp; omega), q5, show N = 0 by omega, up_s]; decide⟩)⟩
  · have e2 := e2 (by omega)
    refine x_addStep hp hE4 ⟨by omega, by omega⟩ ⟨by decide, by decide⟩ (z_R _ _ _) (z_R _ _ _) (fun ρ f gp g11 q5 q6 q7 q8 q9 => ?_)
    rw [eN] at q5 q6 q7 q8 q9
    have fE := fr_E f hE4
    have s0 : q_r ρ 8 0 = 2 := by rw [fr_r f]; exact r04
    have s1 : q_r ρ 8 1 = p := by rw [fr_r f]; exact r14
    have o8 : z ρ 8 = z κ 8 := fr_zF f (by simp; omega)
    refine b_Pa_fork_113 hp s0 s1 fE (x_enter (h := h) hp fE s0 s1 (by rw [o8]; exact h7) (by omega) ⟨by decide, by decide⟩ (z_R _ _ _) ⟨by omega, by omega⟩ ⟨by omega, by omega⟩ (fun ξ f2 y7 y8 y9 y10 y11 y12 y13 => ?_))
    rw [hN] at y10
    have E5 : q_E ξ := fr_E f2 fE
    refine b_Pa_fork_119 hp (by rw [fr_r f2]; exact s0) (by rw [fr_r f2]; exact s1) E5 ⟨1, ⟨by decide, by decide⟩, rfl, ?_⟩
    have u : ∀ a, a ≠ 8 → z (zs ξ 8 8 (z ξ 8 8 + 1)) a = z ξ a := fun a h => z_oF h
    have hN1 : 1 ≤ N := by
      rcases Nat.eq_zero_or_pos N with c | c
      · have := hB1 c; omega
      · exact c
    refine kk 1 _ (h + 1) (N + 1) (Or.inr rfl) (PX_open (kd := 4) hp hκ f gp (by omega) q5 q6 q7 q8 q9 (fr_s f2 (by simp)) (by rw [z_k (by decide)]; exact y7) ?_ (by rw [u 9 (by decide)]; exact y9) (by rw [u 10 (by decide)]; exact y10) (by rw [u 11 (by decide)]; exact y11) (by rw [u 12 (by decide)]; exact y12) (by rw [u 13 (by decide)]; exact y13) hb3 h30 (Or.inr ⟨rfl, rfl⟩) ⟨by omega, by omega⟩ (fun _ => by omega) e2 ⟨by omega, by omega⟩ (fun c => absurd c (by omega)) (fun c c7 => by rw [k5] at c7; have := hB2 c c7; exact ⟨rfl, by omega, by omega⟩)) (fun _ => ⟨fun c => absurd c (by omega), fun c => absurd c (by omega)⟩)
    have e88 : z ξ 8 8 = cb (z κ 9) h := by rw [y8, o8, h8]
    rw [z_s ⟨by omega, by omega⟩, e88]
    show _ = cb (up (z κ 9) h 4) h + (if up (z κ 9) h 4 h = 4 then 1 else 0)
    rw [cb_up h (Nat.le_refl _), up_s, if_pos rfl]
theorem y_fork {K : Int → q_H → Prop} (hd : 6 ≤ d) (hp : p = 16 ∨ p = 29) (ks : KS T σ0) (hx : PX T p σ0 σ h N) (h30 : h ≤ 30) (hk : z σ 4 (z σ 2 8).toNat = 41 ∨ z σ 4 (z σ 2 8).toNat = 43) (hB : B0 p σ N)
    (kk : ∀ v τ h' N', (v = 0 ∨ v = 1) → PX T p σ0 τ h' N' → (v = 1 → B0 p τ N') → K v τ) : J ω m_Pa_fork d 0 0 0 0 0 [(0, .ref 8)] [] σ (q_ki K) := by
  obtain ⟨d, rfl⟩ : ∃ k, d = k + 1 := ⟨d - 1, by omega⟩
  have hcc := PX_c hx
  have hn := PX_N ks hx
  have k4 := (PX_4 hp hx).1
  obtain ⟨⟨⟨hE, r0, r1⟩, -⟩, -⟩ := id hx
  have a := ks.1 (z σ 2 8).toNat
  have go : ∀ y0 : Int, (y0 = 0 ∧ z σ 4 (z σ 2 8).toNat = 41) ∨ (y0 = 1 ∧ z σ 4 (z σ 2 8).toNat = 43) → J ω m_Pa_fork (d + 1) 0 0 0 0 17 [(0, .ref 8)] [.int (zI y0)] σ (q_ki K) := by
    intro y0 hy
    refine b_Pa_fork_17 hp r0 r1 hE (y_adv hp ks hx (fun τ c e ht e2 e3 e4 e5 => ?_))
    have e6 := e5 (by omega)
    have hct := PX_c ht
    have a := a (by omega)
    rw [← k4] at a
    have ec : (z τ 2 8).toNat = (z σ 2 8).toNat + 1 := by omega
    have t9 : z τ 9 = z σ 9 := by rw [e, z_oF (by decide)]
    have hBt : B0 p τ N := by rw [e]; exact ⟨fun c => (z_o (by omega)).trans (hB.1 c), fun c => by rw [z_o (by omega)]; exact hB.2 c⟩
    obtain ⟨⟨⟨hE2, r02, r12⟩, ⟨c1, c2, c3⟩, -⟩, -⟩ := id ht
    refine b_Pa_fork_25 hp r02 r12 hE2 ⟨⟨by omega, by omega⟩, ⟨by omega, by omega⟩, fun c0 => ?_, fun c1 => ?_⟩
    · have hk2 : kl (z σ 4 (z σ 2 8).toNat) = 2 := by rw [show z σ 4 (z σ 2 8).toNat = 41 by omega]; rfl
      exact l_Pa_fork_45 (by omega) hp ks ht h30 (by rw [t9, ec]; omega) (by omega) (fun c => absurd c (by omega)) (fun c => ⟨by omega, hBt.1 c⟩) (fun c c7 => absurd c7 (hBt.2 c)) kk
    · have hk2 : kl (z σ 4 (z σ 2 8).toNat) = 5 := by rw [show z σ 4 (z σ 2 8).toNat = 43 by omega]; rfl
      refine y_loopNumber (by omega) hp ks ht (inR_of _) (by rw [t9, ec]; omega) hBt (fun π hπ => ?_) (fun k23 π hπ p2 p9 p17 => ?_)
      · obtain ⟨⟨⟨hE3, r03, r13⟩, -⟩, -⟩ := id hπ
        exact b_Pa_fork_42 hp r03 r13 hE3 ⟨⟨by decide, by decide⟩, fun _ => ⟨0, ⟨by decide, by decide⟩, rfl, kk 0 π _ _ (Or.inl rfl) hπ (fun c => absurd c (by decide))⟩, fun c => absurd rfl c⟩
      · obtain ⟨⟨⟨hE3, r03, r13⟩, -⟩, -⟩ := id hπ
        have hcp := PX_c hπ
        have k := KS_le ks (z τ 2 8).toNat (z π 2 8).toNat (by omega) (by omega)
        refine b_Pa_fork_42 hp r03 r13 hE3 ⟨⟨by decide, by decide⟩, fun c => absurd c (by decide), fun _ => l_Pa_fork_45 (by omega) hp ks hπ h30 ?_ (by omega) (fun _ => ?_) (fun c => absurd c (by omega)) (fun c _ => ⟨by omega, p17.trans (hBt.1 (by omega))⟩) kk⟩
        · rw [p9, t9]; rw [ec] at k; omega
        · exact (c3 (z τ 2 8).toNat (by omega)).2.2.2 k23
  refine b_Pa_fork_0 hp r0 r1 hE ⟨⟨by omega, by omega⟩, fun c => go 0 (by omega), fun c => go 1 (by omega)⟩
theorem y_closeBlock {K : Int → q_H → Prop} (hd : 5 ≤ d) (hp : p = 16 ∨ p = 29) (ks : KS T σ0) (hx : PX T p σ0 σ h N) (hB : B0 p σ N)
    (kk : ∀ v τ h' N', (v = 0 ∨ v = 1) → PX T p σ0 τ h' N' → (v = 1 → B0 p τ N') → K v τ) : J ω m_Pa_closeBlock d 0 0 0 0 0 [(0, .ref 8)] [] σ (q_ki K) := by
  obtain ⟨d, rfl⟩ : ∃ k, d = k + 1 := ⟨d - 1, by omega⟩
  obtain ⟨⟨⟨hE, r0, r1⟩, -⟩, -, -, -, ⟨h7, h31, h8⟩, hN, hw, hs⟩ := id hx
  have zero : q_ki K (.inl (some (.int (zI 0)))) σ := ⟨0, ⟨by decide, by decide⟩, rfl, kk 0 σ h N (Or.inl rfl) hx (fun c => absurd c (by decide))⟩
  refine b_Pa_closeBlock_0 hp r0 r1 hE ⟨fun _ => zero, fun c => ?_⟩
  obtain ⟨h, rfl⟩ : ∃ k, h = k + 1 := ⟨h - 1, by omega⟩
  rw [show z σ 8 7 - 1 = (h : Int) by omega, Int.toNat_natCast]
  refine ⟨⟨by omega, by omega⟩, fun k1 => y_adv hp ks hx (fun τ c e ht e2 e3 e4 e5 => ?_), fun _ => zero⟩
  have t9 : z τ 9 = z σ 9 := by rw [e, z_oF (by decide)]
  obtain ⟨⟨⟨hE2, r02, r12⟩, -⟩, -, -, -, ⟨g7, g31, g8⟩, gN, gw, gs⟩ := id ht
  refine b_Pa_closeBlock_31 hp r02 r12 hE2 ?_
  rw [show z τ 8 7 - 1 = (h : Int) by omega, Int.toNat_natCast]
  have oh := (gs.1 h (by omega)).2.2.2.2.2.2.2
  have u : ∀ a, a ≠ 8 → z (zs τ 8 7 (h : Int)) a = z τ a := fun a h => z_oF h
  have hπ : PX T p σ0 (zs τ 8 7 (h : Int)) h N := by
    refine PX_mk hp ht (fr_s fr_refl (by simp)) (fun k _ _ _ => z_o (by omega)) (z_s ⟨by omega, by omega⟩) (by omega) ?_ (by rw [u p (by omega)]; exact gN) (by rw [u p (by omega)]; exact gw) ?_
    · rw [z_k (by decide), u 9 (by decide), g8]
      show cb (z τ 9) h + (if z τ 9 h = 4 then 1 else 0) = _
      rw [if_neg (by rw [t9, k1]; decide)]; omega
    · rw [u p (by omega), u 9 (by decide), u 10 (by decide), u 11 (by decide), u 12 (by decide), u 13 (by decide), u (p + 5) (by omega), u (p + 6) (by omega), u (p + 7) (by omega), u (p + 8) (by omega), u (p + 9) (by omega)]
      exact SX_pop gs (by rw [t9]; exact k1)
  refine ⟨⟨by omega, by omega⟩, y_finish (by omega) hp ks hπ (by omega) (fun π h' N' hp3 _ hN' h17' hA' => ?_)⟩
  obtain ⟨⟨⟨hE3, r03, r13⟩, -⟩, -⟩ := id hp3
  refine b_Pa_closeBlock_54 hp r03 r13 hE3 ⟨1, ⟨by decide, by decide⟩, rfl, kk 1 π h' N' (Or.inr rfl) hp3 (fun _ => ⟨fun c => ?_, fun c => ?_⟩)⟩
  · rw [h17', u p (by omega), e, z_o (by omega)]; exact hB.1 (by omega)
  · by_cases c1 : N = 1
    · rw [hA' 0 (by omega), u (p + 5) (by omega), e, z_o (by omega)]; exact hB.2 c1
    · have := hN'.2 (by omega); omega
theorem l_Pa_statements_4 {K : Int → q_H → Prop} (hd : 6 ≤ d) (hp : p = 16 ∨ p = 29) (ks : KS T σ0) (kk : ∀ v τ h' N', (v = 0 ∨ (v = 1 ∧ h' = 0 ∧ B0 p τ N')) → PX T p σ0 τ h' N' → K v τ) : ∀ (k i h N : Nat) (x1 : Int) (σ : q_H), 4097 ≤ i + k → i ≤ 4097 → (x1 = 0 ∨ x1 = 1) → (x1 = 1 → B0 p σ N) → PX T p σ0 σ h N → J ω m_Pa_statements (d + 1) 0 0 0 0 4 [(0, .ref 8), (1, .int (zI x1)), (2, .int (zI (i : Int)))] [] σ (q_ki K) := by
  have zero : ∀ τ h' N', PX T p σ0 τ h' N' → q_ki K (.inl (some (.int (zI 0)))) τ := fun τ h' N' ht => ⟨0, ⟨by decide, by decide⟩, rfl, kk 0 τ h' N' (Or.inl rfl) ht⟩
  intro k
  induction k with
  | zero =>
    intro i h N x1 σ hi h1 e1 hB1 hx
    obtain ⟨⟨⟨hE, r0, r1⟩, -⟩, -⟩ := id hx
    exact b_Pa_statements_4 hp r0 r1 hE ⟨⟨by omega, by omega⟩, fun _ => zero σ h N hx, fun c => absurd c (by omega)⟩
  | succ k ih =>
    intro i h N x1 σ hi h1 e1 hB1 hx
    have hcc := PX_c hx
    obtain ⟨⟨⟨hE, r0, r1⟩, -⟩, -, -, -, ⟨h7, h31, h8⟩, hN, hw, hs⟩ := id hx
    have nx : ∀ (v : Int) τ h' N', (v = 0 ∨ v = 1) → PX T p σ0 τ h' N' → (v = 1 → B0 p τ N') → i < 4097 → J ω m_Pa_statements (d + 1) 0 0 0 0 4 [(0, .ref 8), (1, .int (zI v)), (2, .int (zI ((i : Int) + 1)))] [] τ (q_ki K) := fun v τ h' N' hv ht hb hi2 => ih (i + 1) h' N' v τ (by omega) (by omega) hv hb ht
    have g38 : i < 4097 → x1 ≠ 0 → (h ≤ 30 ∨ z σ 4 (z σ 2 8).toNat = 38) → J ω m_Pa_statements (d + 1) 0 0 0 0 38 [(0, .ref 8), (1, .int (zI x1)), (2, .int (zI (i : Int)))] [] σ (q_ki K) := by
      intro hi2 hx1 h30
      have hB := hB1 (by omega)
      refine b_Pa_statements_38 hp r0 r1 hE ⟨⟨by omega, by omega⟩, fun c => ?_, fun c => ?_, fun c => ?_, fun c => ?_, fun c => ⟨fun _ => zero σ h N hx, fun _ => ⟨fun _ => zero σ h N hx, fun c0 => ⟨1, ⟨by decide, by decide⟩, rfl, kk 1 σ h N (Or.inr ⟨rfl, by omega, hB⟩) hx⟩⟩⟩⟩
      · refine y_simple (by omega) hp ks hx (by omega) hB (fun v τ h' N' hv ht hb => ?_)
        obtain ⟨⟨⟨hE2, r02, r12⟩, -⟩, -⟩ := id ht
        exact b_Pa_statements_128 hp r02 r12 hE2 (nx v τ h' N' hv ht hb hi2)
      · refine y_adv hp ks hx (fun τ c' e ht e2 e3 e4 e5 => ?_)
        obtain ⟨⟨⟨hE2, r02, r12⟩, -⟩, -, -, -, ⟨g7, g31, g8⟩, gN, gw, gs⟩ := id ht
        refine b_Pa_statements_147 hp r02 r12 hE2 (x_enter (h := h) hp hE2 r02 r12 g7 g31 ⟨by decide, by decide⟩ ⟨by decide, by decide⟩ ⟨by decide, by decide⟩ ⟨by decide, by decide⟩ (fun ξ f2 y7 y8 y9 y10 y11 y12 y13 => ?_))
        have o2 : ∀ a, a ∉ [8, 9, 10, 11, 12, 13] → z ξ a = z τ a := fun a h => fr_zF f2 h
        have op := o2 p (by simp; omega)
        have hξ : PX T p σ0 ξ (h + 1) N := by
          refine PX_mk hp ht (fr_mono f2 (by simp)) (fun k _ _ _ => by rw [op]) (by omega) (by omega) ?_ (by rw [op]; exact gN) (by rw [op]; exact gw) ?_
          · rw [y8, y9, g8]
            show _ = cb (up (z τ 9) h 1) h + (if up (z τ 9) h 1 h = 4 then 1 else 0)
            rw [cb_up h (Nat.le_refl _), up_s, if_neg (by decide)]; omega
          · rw [op, y9, y10, y11, y12, y13, o2 (p + 5) (by simp; omega), o2 (p + 6) (by simp; omega), o2 (p + 7) (by simp; omega), o2 (p + 8) (by simp; omega), o2 (p + 9) (by simp; omega)]
            exact SX_block gs (by decide) (by decide)
        obtain ⟨⟨⟨hE3, r03, r13⟩, -⟩, -⟩ := id hξ
        exact b_Pa_statements_155 hp r03 r13 hE3 (nx x1 ξ (h + 1) N e1 hξ (fun _ => ⟨fun c => by rw [op, e, z_o (by omega)]; exact hB.1 c, fun c => by rw [o2 (p + 5) (by simp; omega), e, z_o (by omega)]; exact hB.2 c⟩) hi2)
      · refine y_closeBlock (by omega) hp ks hx hB (fun v τ h' N' hv ht hb => ?_)
        obtain ⟨⟨⟨hE2, r02, r12⟩, -⟩, -⟩ := id ht
        exact b_Pa_statements_162 hp r02 r12 hE2 (nx v τ h' N' hv ht hb hi2)
      · refine y_fork (by omega) hp ks hx (by omega) c hB (fun v τ h' N' hv ht hb => ?_)
        obtain ⟨⟨⟨hE2, r02, r12⟩, -⟩, -⟩ := id ht
        exact b_Pa_statements_136 hp r02 r12 hE2 (nx v τ h' N' hv ht hb hi2)
    refine b_Pa_statements_4 hp r0 r1 hE ⟨⟨by omega, by omega⟩, fun _ => zero σ h N hx, fun ci => ⟨⟨by omega, by omega⟩, fun _ => zero σ h N hx, fun cx => ⟨fun c30 => g38 (by omega) cx (Or.inl (by omega)), fun _ => ⟨⟨by omega, by omega⟩, fun c38 => g38 (by omega) cx (Or.inr c38), fun _ => zero σ h N hx⟩⟩⟩⟩
theorem y_statements {K : Int → q_H → Prop} (hd : 7 ≤ d) (hp : p = 16 ∨ p = 29) (ks : KS T σ0) (hx : PX T p σ0 σ h N) (hB : B0 p σ N) (kk : ∀ v τ h' N', (v = 0 ∨ (v = 1 ∧ h' = 0 ∧ B0 p τ N')) → PX T p σ0 τ h' N' → K v τ) : J ω m_Pa_statements d 0 0 0 0 0 [(0, .ref 8)] [] σ (q_ki K) := by
  obtain ⟨d, rfl⟩ : ∃ k, d = k + 1 := ⟨d - 1, by omega⟩
  obtain ⟨⟨⟨hE, r0, r1⟩, -⟩, -⟩ := id hx
  exact b_Pa_statements_0 hp r0 r1 hE (l_Pa_statements_4 (by omega) hp ks kk 4097 0 h N 1 σ (by decide) (by decide) (by decide) (fun _ => hB) hx)
end SvP
