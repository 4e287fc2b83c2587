/-! THE PARSER, safety: STATEMENTS begin -/
/-- between STATEMENTS -/
def B0 (p : Nat) (σ : q_H) (N : Nat) : Prop := (N = 0 → z σ p 17 = 0) ∧ (N = 1 → z σ (p + 5) 0 ≠ 7)
section SuP
variable {ω : q_W} {d T p h N : Nat} {σ0 σ ρ : q_H}
theorem up_up {f : Nat → Int} {k : Nat} {a b : Int} : up (up f k a) k b = up f k b := funext fun j => by unfold up; split <;> rfl
theorem x_enter {K : q_H → Prop} {x1 x2 x3 x4 : Int} (hp : p = 16 ∨ p = 29) (hE : q_E σ) (r0 : q_r σ 8 0 = 2) (r1 : q_r σ 8 1 = p) (h7 : z σ 8 7 = (h : Int)) (h31 : h ≤ 31) (i1 : inR x1) (i2 : inR x2) (i3 : inR x3) (i4 : inR x4)
    (kk : ∀ ρ, fr [8, 9, 10, 11, 12, 13] σ ρ → z ρ 8 7 = (h : Int) + 1 → z ρ 8 8 = z σ 8 8 → z ρ 9 = up (z σ 9) h x1 → z ρ 10 = up (z σ 10) h x2 → z ρ 11 = up (z σ 11) h x3 → z ρ 12 = up (z σ 12) h x4 → z ρ 13 = up (z σ 13) h 0 → K ρ) :
    J ω m_Pa_enter d 0 0 0 0 0 [(0, .ref 8), (1, .int (zI x1)), (2, .int (zI x2)), (3, .int (zI x3)), (4, .int (zI x4))] [] σ (q_kv K) := by
  refine b_Pa_enter_0 hp r0 r1 hE ?_
  rw [h7, Int.toNat_natCast]
  refine ⟨⟨by omega, by omega⟩, rfl, kk _ (fr_s (fr_s (fr_s (fr_s (fr_s (fr_s fr_refl (by simp)) (by simp)) (by simp)) (by simp)) (by simp)) (by simp)) ?_ ?_ ?_ ?_ ?_ ?_ ?_⟩
  · exact z_s ⟨by omega, by omega⟩
  · rw [z_k (by decide), z_o (by decide), z_o (by decide), z_o (by decide), z_o (by decide), z_o (by decide)]
  · rw [z_oF (by decide), z_oF (by decide), z_oF (by decide), z_oF (by decide), z_oF (by decide), z_up i1]
  · rw [z_oF (by decide), z_oF (by decide), z_oF (by decide), z_oF (by decide), z_up i2, z_oF (by decide)]
  · rw [z_oF (by decide), z_oF (by decide), z_oF (by decide), z_up i3, z_oF (by decide), z_oF (by decide)]
  · rw [z_oF (by decide), z_oF (by decide), z_up i4, z_oF (by decide), z_oF (by decide), z_oF (by decide)]
  · rw [z_oF (by decide), z_up ⟨by decide, by decide⟩, z_oF (by decide), z_oF (by decide), z_oF (by decide), z_oF (by decide)]
theorem y_target {K : Int → q_H → Prop} (hd : 1 ≤ d) (hp : p = 16 ∨ p = 29) (hx : PX T p σ0 σ h N) (kk : ∀ v τ, 0 ≤ v ∧ v < 12 → PX T p σ0 τ h N → z τ 2 8 = z σ 2 8 → z τ p 7 = z σ p 7 → z τ p 17 = z σ p 17 → z τ (p + 5) = z σ (p + 5) → K v τ) : J ω m_Pa_target d 0 0 0 0 0 [(0, .ref 8)] [] σ (q_ki K) := by
  obtain ⟨d, rfl⟩ : ∃ k, d = k + 1 := ⟨d - 1, by omega⟩
  have hcc := PX_c hx
  obtain ⟨⟨⟨hE, r0, r1⟩, -, hw, -⟩, -⟩ := id hx
  obtain ⟨w1, w2, -⟩ := id hw
  refine b_Pa_target_0 hp r0 r1 hE ⟨⟨by omega, by omega⟩, x_find hp hE hw (fun v hv => b_Pa_target_14 hp r0 r1 hE ⟨⟨by omega, by omega⟩, fun c => ⟨fun c2 => ⟨⟨by omega, by omega⟩, _, ⟨by omega, by omega⟩, rfl, kk _ σ ⟨by omega, by omega⟩ hx rfl rfl rfl rfl⟩, fun c2 => ⟨⟨by omega, by omega⟩, ?_⟩⟩, fun c => ⟨⟨by omega, by omega⟩, ?_⟩⟩)⟩
  · have go : ∀ τ, PX T p σ0 τ h N → z τ 2 8 = z σ 2 8 → z τ p 7 = z σ p 7 → z τ p 17 = z σ p 17 → z τ (p + 5) = z σ (p + 5) → J ω m_Pa_target (d + 1) 0 0 0 0 59 [(1, .int (zI v))] [] τ (q_ki K) := by
      intro τ ht e2 e7 e17 e5
      obtain ⟨⟨⟨hE2, r02, r12⟩, -⟩, -⟩ := id ht
      exact b_Pa_target_59 hp r02 r12 hE2 ⟨⟨by omega, by omega⟩, _, ⟨by omega, by omega⟩, rfl, kk _ τ ⟨by omega, by omega⟩ ht e2 e7 e17 e5⟩
    exact x_note hp hE (go σ hx rfl rfl rfl rfl) (go _ (PX_note hp hx) (by rw [z_o (by omega), z_o (by omega)]) (by rw [z_k (by decide), z_k (by decide)]) (by rw [z_k (by decide), z_k (by decide)]) (by rw [z_oF (by omega), z_oF (by omega)]))
  · have go : ∀ τ, PX T p σ0 τ h N → z τ 2 8 = z σ 2 8 → z τ p 7 = z σ p 7 → z τ p 17 = z σ p 17 → z τ (p + 5) = z σ (p + 5) → J ω m_Pa_target (d + 1) 0 0 0 0 35 [(1, .int (zI v))] [] τ (q_ki K) := by
      intro τ ht e2 e7 e17 e5
      obtain ⟨⟨⟨hE2, r02, r12⟩, -⟩, -⟩ := id ht
      exact b_Pa_target_35 hp r02 r12 hE2 ⟨⟨by omega, by omega⟩, _, ⟨by omega, by omega⟩, rfl, kk _ τ ⟨by omega, by omega⟩ ht e2 e7 e17 e5⟩
    exact x_note hp hE (go σ hx rfl rfl rfl rfl) (go _ (PX_note hp hx) (by rw [z_o (by omega), z_o (by omega)]) (by rw [z_k (by decide), z_k (by decide)]) (by rw [z_k (by decide), z_k (by decide)]) (by rw [z_oF (by omega), z_oF (by omega)]))
/-- a setting or a claim: its step -/
theorem PX_step {x w f0 S0 : Int} {ρ : q_H} (hp : p = 16 ∨ p = 29) (hx : PX T p σ0 σ h N) (f : fr [p, p + 5, p + 6, p + 7, p + 8, p + 9] σ ρ) (g7 : 0 ≤ z ρ p 7 ∧ 8 * z ρ p 7 ≤ z σ0 5 (z σ 2 8).toNat) (gp : ∀ k, k ≠ 7 → k ≠ 11 → z ρ p k = z σ p k) (g11 : z ρ p 11 = (N : Int) + 1)
    (q5 : z ρ (p + 5) = up (z σ (p + 5)) N x) (q6 : z ρ (p + 6) = up (z σ (p + 6)) N w) (q7 : z ρ (p + 7) = up (z σ (p + 7)) N f0) (q8 : z ρ (p + 8) = up (z σ (p + 8)) N (z σ p 17)) {g : Int} (q9 : z ρ (p + 9) = up (z σ (p + 9)) N g)
    (hb : 5 * ((N : Int) + 1 + cn (z σ 9) h) ≤ 2 * z σ0 5 (z σ 2 8).toNat) (hx1 : x = 1 ∨ x = 2 ∨ x = 3 ∨ x = 7) (hf : 0 ≤ f0 ∧ f0 ≤ z σ p 17) (hw1 : x = 1 → 0 ≤ w ∧ w < 12) (hw2 : x = 2 → 0 ≤ w ∧ w < 512) (hg : x = 7 → 0 ≤ g ∧ g < 32) (hf1 : N = 0 → f0 = 0 ∧ (x ≠ 7 → 1 ≤ z σ p 17) ∧ (x = 7 → z σ p 17 = 0)) (hf2 : N = 1 → z σ (p + 5) 0 ≠ 7) : PX T p σ0 ρ h (N + 1) := by
  obtain ⟨-, -, -, -, ⟨h7, h31, h8⟩, hN, hw, hs⟩ := id hx
  have o : ∀ a, a ∉ [p, p + 5, p + 6, p + 7, p + 8, p + 9] → z ρ a = z σ a := fun a h => fr_zF f h
  refine PX_mk hp hx (fr_mono f (by simp)) (fun k k7 _ k11 => gp k k7 k11) (by rw [o 8 (by simp; omega)]; exact h7) h31 (by rw [o 8 (by simp; omega), o 9 (by simp; omega)]; exact h8) (by omega) (by rw [gp 8 (by decide) (by decide)]; exact hw) ?_
  rw [o 9 (by simp; omega), o 10 (by simp; omega), o 11 (by simp; omega), o 12 (by simp; omega), o 13 (by simp; omega), q5, q6, q7, q8, q9]
  exact SX_step hs hb g7 h31 hx1 hf hw1 hw2 hg hf1 hf2
theorem l_Pa_simple_130 {K : Int → q_H → Prop} {x1 x2 x3 x4 as : Int} (hd : 4 ≤ d) (hp : p = 16 ∨ p = 29) (ks : KS T σ0) (hx : PX T p σ0 σ h N) (ha : z σ p 7 = as) {a' : Int} (e1 : x1 = 1 ∨ x1 = 2 ∨ x1 = 3)
    (hb : 5 * ((N : Int) + 1 + cn (z σ 9) h) ≤ 2 * z σ0 5 (z σ 2 8).toNat) (h1 : x1 = 1 → 0 ≤ x2 ∧ x2 < 12) (h2 : x1 = 2 → 0 ≤ x2 ∧ x2 < 512) (i2 : inR x2) (h3 : 0 ≤ x3 ∧ x3 ≤ z σ p 17) (h4 : 0 ≤ x4 ∧ x4 ≤ 1501) (ha' : 0 ≤ a' ∧ 8 * a' ≤ z σ0 5 (z σ 2 8).toNat) (hf1 : N = 0 → x3 = 0) (hf17 : 1 ≤ z σ p 17) (hf2 : N = 1 → z σ (p + 5) 0 ≠ 7)
    (kk : ∀ v τ h' N', (v = 0 ∨ v = 1) → PX T p σ0 τ h' N' → (v = 1 → B0 p τ N') → K v τ) :
    J ω m_Pa_simple (d + 1) 0 0 0 0 130 [(0, .ref 8), (1, .int (zI x1)), (2, .int (zI x2)), (3, .int (zI x3)), (4, .int (zI x4))] [] (zs σ p 7 a') (q_ki K) := by
  have hn := PX_N ks hx
  obtain ⟨⟨⟨hE, r0, r1⟩, -, -, -, ⟨i1, i9, -⟩⟩, -, -, -, -, hN, -, -⟩ := id hx
  have u : ∀ a, a ≠ p → z (zs σ p 7 a') a = z σ a := fun a h => z_oF h
  have s7 : z (zs σ p 7 a') p 7 = a' := z_s ⟨by omega, by omega⟩
  have sk : ∀ k, k ≠ 7 → z (zs σ p 7 a') p k = z σ p k := fun k h => z_k h
  have e11 : z (zs σ p 7 a') p 11 = (N : Int) := (sk 11 (by decide)).trans hN
  have e17 : z (zs σ p 7 a') p 17 = z σ p 17 := sk 17 (by decide)
  refine b_Pa_simple_130 hp r0 r1 (zs_E hE) (x_addStep hp (zs_E hE) ⟨by omega, by omega⟩ ⟨by omega, by omega⟩ i2 ⟨by omega, by omega⟩ (fun ρ f gp g11 q5 q6 q7 q8 q9 => ?_))
  rw [e11, Int.toNat_natCast, u (p + 5) (by omega)] at q5
  rw [e11, Int.toNat_natCast, u (p + 6) (by omega)] at q6
  rw [e11, Int.toNat_natCast, u (p + 7) (by omega)] at q7
  rw [e11, Int.toNat_natCast, u (p + 8) (by omega), e17] at q8
  rw [e11, Int.toNat_natCast, u (p + 9) (by omega)] at q9
  have f2 : fr [p, p + 5, p + 6, p + 7, p + 8, p + 9] σ ρ := fr_trans (fr_s fr_refl (by simp)) f
  have hρ : PX T p σ0 ρ h (N + 1) := PX_step (S0 := 0) hp hx f2 (by rw [gp 7 (by decide), s7]; exact ha') (fun k k7 k11 => by rw [gp k k11, sk k k7]) (by omega) q5 q6 q7 q8 q9 hb (by omega) h3 h1 h2 (fun c => absurd c (by omega)) (fun c => ⟨hf1 c, fun _ => hf17, fun c7 => absurd c7 (by omega)⟩) hf2
  obtain ⟨⟨⟨hE2, r02, r12⟩, -⟩, -⟩ := id hρ
  refine b_Pa_simple_140 hp r02 r12 hE2 (y_finish (by omega) hp ks hρ (by omega) (fun τ h' N' ht _ hN' _ hA => ?_))
  obtain ⟨⟨⟨hE3, r03, r13⟩, -⟩, -⟩ := id ht
  refine b_Pa_simple_150 hp r03 r13 hE3 ⟨1, ⟨by decide, by decide⟩, rfl, kk 1 τ h' N' (Or.inr rfl) ht (fun _ => ⟨fun c => absurd c (by omega), fun c => ?_⟩)⟩
  have hN0 : N = 0 := by omega
  rw [hA 0 (by omega), q5, hN0, up_s]
  omega
theorem l_Pa_simple_77 {K : Int → q_H → Prop} {x1 x2 : Int} (hd : 5 ≤ d) (hp : p = 16 ∨ p = 29) (ks : KS T σ0) (hx : PX T p σ0 σ h N) (e1 : x1 = 1 ∨ x1 = 2 ∨ x1 = 3)
    (hb : 5 * ((N : Int) + cn (z σ 9) h) + 1 ≤ 2 * z σ0 5 (z σ 2 8).toNat) (ha : x1 = 2 → 8 * z σ p 7 + 6 ≤ z σ0 5 (z σ 2 8).toNat) (h1 : x1 = 1 → 0 ≤ x2 ∧ x2 < 12) (h2 : x1 = 2 → x2 = z σ p 7) (i2 : inR x2) (hB : B0 p σ N)
    (kk : ∀ v τ h' N', (v = 0 ∨ v = 1) → PX T p σ0 τ h' N' → (v = 1 → B0 p τ N') → K v τ) :
    J ω m_Pa_simple (d + 1) 0 0 0 0 77 [(0, .ref 8), (1, .int (zI x1)), (2, .int (zI x2))] [] σ (q_ki K) := by
  have hn := PX_N ks hx
  have hcc := PX_c hx
  obtain ⟨⟨⟨hE, r0, r1⟩, -, -, -, ⟨i1, i9, -⟩⟩, -⟩ := id hx
  have zero : ∀ τ h' N', PX T p σ0 τ h' N' → q_ki K (.inl (some (.int (zI 0)))) τ := fun τ h' N' ht => ⟨0, ⟨by decide, by decide⟩, rfl, kk 0 τ h' N' (Or.inl rfl) ht (fun c => absurd c (by decide))⟩
  refine b_Pa_simple_77 hp r0 r1 hE (x_expression (by omega) hp hx.1 (fun v τ he hv => ?_))
  have ht := PX_EX hp ks hx he
  have hct := PX_c ht
  obtain ⟨⟨⟨hE2, r02, r12⟩, -⟩, -⟩ := id ht
  obtain ⟨-, b9, -, -, -, -, f1, -, -, -, ⟨j0, j1, j2, -⟩, -⟩ := id he
  have t9 : z τ 9 = z σ 9 := fr_zF b9 (by simp; omega)
  have t7 : z τ p 7 = z σ p 7 := f1 7 (by decide) (by decide) (by decide)
  refine b_Pa_simple_93 hp r02 r12 hE2 ⟨⟨by omega, by omega⟩, fun _ => zero τ h N ht, fun c => y_accept (by omega) hp ks ht ⟨by decide, by decide⟩ (by decide) (b_Pa_simple_107 hp r02 r12 hE2 ⟨⟨by decide, by decide⟩, fun c => absurd rfl c, fun _ => zero τ h N ht⟩) (fun k32 π e hπ e2 e3 => ?_)⟩
  have hv2 : 0 ≤ v ∧ v ≤ 1501 ∧ z σ 2 8 + 1 ≤ z τ 2 8 ∧ 0 < z τ p 17 := by omega
  have t5 : z τ (p + 5) = z σ (p + 5) := fr_zF b9 (by simp; omega)
  obtain ⟨⟨⟨hE3, r03, r13⟩, -⟩, -⟩ := id hπ
  have p9 : z π 9 = z σ 9 := by rw [e, z_oF (by decide), t9]
  have p7 : z π p 7 = z σ p 7 := by rw [e, z_o (by omega), t7]
  have p17 : z π p 17 = z τ p 17 := by rw [e, z_o (by omega)]
  have k := KS_le ks (z σ 2 8).toNat (z π 2 8).toNat (by omega) (by omega)
  have p5 : z π (p + 5) = z σ (p + 5) := by rw [e, z_oF (by omega), t5]
  have hf2 : N = 1 → z π (p + 5) 0 ≠ 7 := by rw [p5]; exact hB.2
  have hf17 : 1 ≤ z π p 17 := by omega
  have hb3 : 5 * ((N : Int) + 1 + cn (z π 9) h) ≤ 2 * z σ0 5 (z π 2 8).toNat := by rw [p9]; omega
  have hs512 : z σ0 5 (z π 2 8).toNat ≤ 4096 := (PX_N ks hπ).2.2.2.2
  refine b_Pa_simple_107 hp r03 r13 hE3 ⟨⟨by decide, by decide⟩, fun _ => ⟨⟨by omega, by omega⟩, fun c2 => ?_, fun c2 => ?_⟩, fun c => absurd c (by decide)⟩
  · have := l_Pa_simple_130 (ω := ω) (x1 := x1) (x2 := x2) (x3 := z σ p 17) (x4 := v) (a' := z π p 7) (by omega : 4 ≤ d) hp ks hπ rfl e1 hb3 h1 (fun c => absurd c c2) i2 ⟨by omega, by omega⟩ ⟨by omega, by omega⟩ ⟨by omega, by omega⟩ hB.1 hf17 hf2 kk
    rw [zs_self rfl] at this
    exact this
  · have h2 := h2 c2
    have ha := ha c2
    exact l_Pa_simple_130 (by omega) hp ks hπ rfl e1 hb3 h1 (fun _ => ⟨by omega, by omega⟩) i2 ⟨by omega, by omega⟩ ⟨by omega, by omega⟩ ⟨by omega, by omega⟩ hB.1 hf17 hf2 kk
theorem l_Pa_simple_53 {K : Int → q_H → Prop} {x1 x2 : Int} (hd : 5 ≤ d) (hp : p = 16 ∨ p = 29) (ks : KS T σ0) (hx : PX T p σ0 σ h N) (e1 : x1 = 1 ∨ x1 = 2 ∨ x1 = 3) (h46 : z σ 4 (z σ 2 8).toNat ≠ 46) (h44 : x1 = 2 → z σ 4 (z σ 2 8).toNat = 44) (h1 : x1 = 1 → 0 ≤ x2 ∧ x2 < 12) (h2 : x1 = 2 → x2 = z σ p 7) (i2 : inR x2) (hB : B0 p σ N)
    (kk : ∀ v τ h' N', (v = 0 ∨ v = 1) → PX T p σ0 τ h' N' → (v = 1 → B0 p τ N') → K v τ) :
    J ω m_Pa_simple (d + 1) 0 0 0 0 53 [(0, .ref 8), (1, .int (zI x1))] [.int (zI x2)] σ (q_ki K) := by
  have hn := PX_N ks hx
  have hcc := PX_c hx
  obtain ⟨⟨⟨hE, r0, r1⟩, -⟩, -⟩ := id hx
  have k4 := (PX_4 hp hx).1
  refine b_Pa_simple_53 hp r0 r1 hE (y_adv hp ks hx (fun τ c e ht e2 e3 e4 e5 => ?_))
  have e6 := e5 h46
  have t9 : z τ 9 = z σ 9 := by rw [e, z_oF (by decide)]
  have t7 : z τ p 7 = z σ p 7 := by rw [e, z_o (by omega)]
  have a := ks.1 (z σ 2 8).toNat (by omega)
  have kp := kl_pos (z σ0 4 (z σ 2 8).toNat)
  have ec : (z τ 2 8).toNat = (z σ 2 8).toNat + 1 := by omega
  have hb1 : 5 * ((N : Int) + cn (z τ 9) h) + 1 ≤ 2 * z σ0 5 (z τ 2 8).toNat := by rw [t9, ec]; omega
  have ha1 : x1 = 2 → 8 * z τ p 7 + 6 ≤ z σ0 5 (z τ 2 8).toNat := fun c2 => by
    have k6 : kl (z σ0 4 (z σ 2 8).toNat) = 6 := by rw [← k4, h44 c2]; rfl
    rw [t7, ec]; omega
  have hBt : B0 p τ N := by rw [e]; exact ⟨fun c => (z_o (by omega)).trans (hB.1 c), fun c => by rw [z_o (by omega)]; exact hB.2 c⟩
  obtain ⟨⟨⟨hE2, r02, r12⟩, -⟩, -⟩ := id ht
  refine b_Pa_simple_61 hp r02 r12 hE2 ⟨⟨by omega, by omega⟩, fun _ => l_Pa_simple_77 hd hp ks ht e1 hb1 ha1 h1 (fun c => (h2 c).trans t7.symm) i2 hBt kk, fun c1 => y_accept (by omega) hp ks ht ⟨by decide, by decide⟩ (by decide) ?_ (fun k31 π f hπ f2 f3 => ?_)⟩
  · exact b_Pa_simple_72 hp r02 r12 hE2 ⟨⟨by decide, by decide⟩, fun c => absurd rfl c, fun _ => ⟨0, ⟨by decide, by decide⟩, rfl, kk 0 τ h N (Or.inl rfl) ht (fun c => absurd c (by decide))⟩⟩
  · have hBp : B0 p π N := by rw [f]; exact ⟨fun c => (z_o (by omega)).trans (hBt.1 c), fun c => by rw [z_o (by omega)]; exact hBt.2 c⟩
    obtain ⟨⟨⟨hE3, r03, r13⟩, -⟩, -⟩ := id hπ
    have p9 : z π 9 = z τ 9 := by rw [f, z_oF (by decide)]
    have k := KS_le ks (z τ 2 8).toNat (z π 2 8).toNat (by omega) (by omega)
    exact b_Pa_simple_72 hp r03 r13 hE3 ⟨⟨by decide, by decide⟩, fun _ => l_Pa_simple_77 hd hp ks hπ e1 (by rw [p9]; omega) (fun c => absurd c (by omega)) h1 (fun c => absurd c (by omega)) i2 hBp kk, fun c => absurd c (by decide)⟩
theorem y_simple {K : Int → q_H → Prop} (hd : 6 ≤ d) (hp : p = 16 ∨ p = 29) (ks : KS T σ0) (hx : PX T p σ0 σ h N) (h46 : z σ 4 (z σ 2 8).toNat ≠ 46) (hB : B0 p σ N)
    (kk : ∀ v τ h' N', (v = 0 ∨ v = 1) → PX T p σ0 τ h' N' → (v = 1 → B0 p τ N') → K v τ) : J ω m_Pa_simple d 0 0 0 0 0 [(0, .ref 8)] [] σ (q_ki K) := by
  obtain ⟨d, rfl⟩ : ∃ k, d = k + 1 := ⟨d - 1, by omega⟩
  have hcc := PX_c hx
  obtain ⟨⟨⟨hE, r0, r1⟩, -⟩, -⟩ := id hx
  refine b_Pa_simple_0 hp r0 r1 hE ⟨⟨by omega, by omega⟩, fun _ => ⟨fun _ => ?_, fun c44 => ?_⟩, fun _ => ?_⟩
  · exact b_Pa_simple_33 hp r0 r1 hE ⟨⟨by decide, by decide⟩, fun _ => l_Pa_simple_53 (by omega) hp ks hx (by decide) h46 (fun c => absurd c (by decide)) (fun c => absurd c (by decide)) (fun c => absurd c (by decide)) (z_R _ _ _) hB kk, fun c => absurd c (by decide)⟩
  · exact b_Pa_simple_33 hp r0 r1 hE ⟨⟨by decide, by decide⟩, fun _ => l_Pa_simple_53 (by omega) hp ks hx (by decide) h46 (fun _ => c44) (fun c => absurd c (by decide)) (fun _ => rfl) (z_R _ _ _) hB kk, fun c => absurd c (by decide)⟩
  · refine b_Pa_simple_33 hp r0 r1 hE ⟨⟨by decide, by decide⟩, fun c => absurd rfl c, fun _ => y_target (by omega) hp hx (fun v τ hv ht e2 e7 e17 e5 => ?_)⟩
    obtain ⟨⟨⟨hE2, r02, r12⟩, -⟩, -⟩ := id ht
    refine b_Pa_simple_43 hp r02 r12 hE2 (l_Pa_simple_53 (by omega) hp ks ht (by decide) ?_ (fun c => absurd c (by decide)) (fun _ => hv) (fun c => absurd c (by decide)) ⟨by omega, by omega⟩ ⟨fun c => e17.trans (hB.1 c), fun c => by rw [e5]; exact hB.2 c⟩ kk)
    rw [(PX_4 hp ht).1, e2, ← (PX_4 hp hx).1]; exact h46
end SuP
