/-! THE PARSER, safety: the methods that read an EXPR -/
section PaX
variable {ω : q_W} {d T p : Nat} {σ0 σ : q_H}
theorem EX_c (h : EX T p σ0 σ) : 0 ≤ z σ 2 8 ∧ z σ 2 8 < 4097 := by
  obtain ⟨-, -, ⟨c1, -, -⟩, -, -, ⟨e0, e1, e2⟩, -⟩ := h
  omega
theorem EX_k (h : EX T p σ0 σ) : 1 ≤ z σ 4 (z σ 2 8).toNat ∧ z σ 4 (z σ 2 8).toNat ≤ 47 ∧ (z σ 4 (z σ 2 8).toNat ≠ 46 → z σ 2 8 < T) ∧ (z σ 4 (z σ 2 8).toNat = 23 → 0 ≤ zL (q_l σ 6 (z σ 2 8).toNat) ∧ zL (q_l σ 6 (z σ 2 8).toNat) ≤ 255) := by
  obtain ⟨-, -, ⟨c1, c2, c3⟩, -, -, ⟨e0, e1, e2⟩, -⟩ := h
  have := c3 (z σ 2 8).toNat (by omega)
  refine ⟨this.1, this.2.1, fun hc => ?_, this.2.2.2⟩
  rcases Int.lt_or_le (z σ 2 8) T with h | h
  · exact h
  · exact absurd (this.2.2.1.mpr (by omega)) hc
theorem EX_self (h : EX T p σ0 σ) : EX T p σ σ := by
  obtain ⟨a, b, c, w, d, e1, f1, g1, s1, t1, i1, k1⟩ := h
  exact ⟨a, fr_refl, c, w, fun _ _ => rfl, ⟨by omega, Int.le_refl _, e1.2.2⟩, fun _ _ _ _ => rfl, fun _ _ => rfl, s1, t1, ⟨by omega, Int.le_refl _, i1.2.2⟩, k1⟩
theorem EX_tr {τ : q_H} (h : EX T p σ0 σ) (g : EX T p σ τ) : EX T p σ0 τ := by
  obtain ⟨a, b, c, w, d, e1, f1, g1, s1, t1, i1, k1⟩ := h
  obtain ⟨a', b', c', w', d', e1', f1', g1', s1', t1', i1', k1'⟩ := g
  exact ⟨a', fr_trans b b', c', w', fun k hk => (d' k hk).trans (d k hk), ⟨by omega, by omega, by omega⟩, fun k q1 q2 q3 => (f1' k q1 q2 q3).trans (f1 k q1 q2 q3), fun k hk => (g1' k hk).trans (g1 k hk), s1', t1', ⟨by omega, by omega, i1'.2.2⟩, k1'⟩
theorem x_adv {K : q_H → Prop} (hp : p = 16 ∨ p = 29) (h : EX T p σ0 σ) (kk : ∀ τ, EX T p σ0 τ → z σ 2 8 ≤ z τ 2 8 → (z σ 4 (z σ 2 8).toNat ≠ 46 → z τ 2 8 = z σ 2 8 + 1) → K τ) : J ω m_Sc_advance d 0 0 0 0 0 [(0, .ref 2)] [] σ (q_kv K) := by
  obtain ⟨⟨hE, r0, r1⟩, -, ⟨c1, c2, c3⟩, -, -, ⟨e0, e1, e2⟩, -⟩ := id h
  have hk := EX_k h
  refine b_Sc_advance_0 hE ?_
  rw [c2]
  refine ⟨⟨by omega, by omega⟩, fun c => ⟨rfl, kk σ h (Int.le_refl _) (fun hc => absurd (hk.2.2.1 hc) (by omega))⟩, fun c => ⟨rfl, kk _ (EX_28 hp h (by omega)) ?_ (fun _ => ?_)⟩⟩
  · rw [z_s ⟨by omega, by omega⟩]; omega
  · rw [z_s ⟨by omega, by omega⟩]
theorem x_push {K : q_H → Prop} {x1 x2 x3 : Int} (hp : p = 16 ∨ p = 29) (h : EX T p σ0 σ) (h1 : 1 ≤ x1 ∧ x1 ≤ 25) (h2 : 24 ≤ x1 → 0 ≤ x2 ∧ x2 < 12) (h3 : 1 ≤ x3 ∧ x3 ≤ 8) (hx2 : inR x2) (h0 : 0 < z σ p 17 ∨ 23 ≤ x1) (kk : ∀ τ, EX T p σ0 τ → z τ 2 8 = z σ 2 8 → z τ 8 10 = z σ 8 10 → 0 < z τ p 17 → K τ) : J ω m_Pa_push d 0 0 0 0 0 [(0, .ref 8), (1, .int (zI x1)), (2, .int (zI x2)), (3, .int (zI x3))] [] σ (q_kv K) := by
  obtain ⟨⟨hE, r0, r1⟩, -, -, -, -, -, -, -, -, ⟨t1, t2, -⟩, ⟨i0, i1, i2, -⟩, -, ⟨eo1, eo2⟩⟩ := id h
  refine b_Pa_push_0 hp r0 r1 hE ⟨fun c => ⟨rfl, kk σ h rfl rfl (eo1 (by omega))⟩, fun c => ⟨fun c2 => ⟨⟨by omega, by omega⟩, ⟨by omega, by omega⟩, rfl, kk _ (EX_push hp h c c2 h1 h2 h3 hx2 h0) ?_ ?_ ?_⟩, fun _ => ⟨rfl, kk σ h rfl rfl (by omega)⟩⟩⟩
  · rw [z_o (by omega), z_o (by omega), z_o (by omega), z_o (by omega), z_o (by omega), z_o (by omega)]
  · rw [z_o (by omega), z_o (by omega), z_o (by omega), z_o (by omega), z_k (by decide), z_o (by omega)]
  · rw [z_s ⟨by omega, by omega⟩]; omega
theorem x_pushSign {K : q_H → Prop} {x1 : Int} (hp : p = 16 ∨ p = 29) (h : EX T p σ0 σ) (h1 : 1 ≤ x1 ∧ x1 ≤ 47) (kk : ∀ τ, EX T p σ0 τ → z τ 2 8 = z σ 2 8 → z τ 4 = z σ 4 → K τ) : J ω m_Pa_pushSign d 0 0 0 0 0 [(0, .ref 8), (1, .int (zI x1))] [] σ (q_kv K) := by
  obtain ⟨⟨hE, r0, r1⟩, -, -, -, -, -, -, -, ⟨s1, s2, -⟩, -⟩ := id h
  refine b_Pa_pushSign_0 hp r0 r1 hE ⟨fun _ => ⟨rfl, kk σ h rfl rfl⟩, fun c => ⟨⟨by omega, by omega⟩, rfl, kk _ (EX_sign hp h h1 c) ?_ ?_⟩⟩
  · rw [z_o (by decide), z_o (by decide)]
  · rw [z_oF (by decide), z_oF (by decide)]
theorem x_topSign {K : Int → q_H → Prop} (hp : p = 16 ∨ p = 29) (h : EX T p σ0 σ) (kk : ∀ v, (z σ 8 10 ≤ 0 → v = 0) → (0 < z σ 8 10 → v = z σ 14 (z σ 8 10 - 1).toNat ∧ 1 ≤ v ∧ v ≤ 47) → K v σ) : J ω m_Pa_topSign d 0 0 0 0 0 [(0, .ref 8)] [] σ (q_ki K) := by
  obtain ⟨⟨hE, r0, r1⟩, -, -, -, -, -, -, -, ⟨s1, s2, s3⟩, -⟩ := id h
  refine b_Pa_topSign_0 hp r0 r1 hE ⟨fun c => ⟨0, ⟨by decide, by decide⟩, rfl, kk 0 (fun _ => rfl) (fun c2 => absurd c2 (by omega))⟩, fun c => ⟨⟨by omega, by omega⟩, _, z_R _ _ _, rfl, kk _ (fun c2 => absurd c2 (by omega)) (fun _ => ⟨rfl, s3 _ (by omega)⟩)⟩⟩
theorem zs_wrap {σ : q_H} {o k : Nat} {e : Int} : zs σ o k e = zs σ o k (zI e).toInt := by unfold zs; rw [← zI_of]
theorem EX_13 {e : Int} (hp : p = 16 ∨ p = 29) (h : EX T p σ0 σ) : EX T p σ0 (zs σ 8 13 e) := by
  rw [zs_wrap]
  exact EX_8 hp h (by decide) (inR_of _) (fun c => absurd c (by decide)) (fun c => absurd c (by decide)) (fun c => absurd c (by decide))
theorem x_deepen {K : q_H → Prop} {x1 : Int} (hd : 1 ≤ d) (hp : p = 16 ∨ p = 29) (h : EX T p σ0 σ) (h1 : 1 ≤ x1 ∧ x1 ≤ 47) (kk : ∀ τ, EX T p σ0 τ → z σ 2 8 ≤ z τ 2 8 → K τ) : J ω m_Pa_deepen d 0 0 0 0 0 [(0, .ref 8), (1, .int (zI x1))] [] σ (q_kv K) := by
  obtain ⟨d, rfl⟩ : ∃ k, d = k + 1 := ⟨d - 1, by omega⟩
  obtain ⟨⟨hE, r0, r1⟩, -⟩ := id h
  refine b_Pa_deepen_0 hp r0 r1 hE (x_pushSign hp h h1 (fun τ ht e2 e4 => ?_))
  obtain ⟨⟨hE2, r02, r12⟩, -⟩ := id ht
  refine b_Pa_deepen_5 hp r02 r12 hE2 (x_adv hp (EX_13 hp ht) (fun ρ hr g1 g2 => ?_))
  obtain ⟨⟨hE3, r03, r13⟩, -⟩ := id hr
  rw [z_o (by decide), e2] at g1
  exact b_Pa_deepen_22 hp r03 r13 hE3 ⟨rfl, kk ρ hr g1⟩
theorem l_Pr_find_31 {K : Int → q_H → Prop} {x1 : Int64} (hp : p = 16 ∨ p = 29) (hE : q_E σ) (hw : PW p σ) (kk : ∀ v : Int, (v = -1 ∨ (12 ≤ v ∧ v - 12 < z σ p 4)) → K v σ) : ∀ (k i : Nat), z σ p 4 ≤ (i : Int) + k → i ≤ 12 → J ω m_Pr_find d 0 0 0 0 31 [(0, .ref p), (1, .long x1), (3, .int (zI (i : Int)))] [] σ (q_ki K) := by
  obtain ⟨w1, w2, -⟩ := hw
  intro k
  induction k with
  | zero =>
    intro i hi h12
    exact b_Pr_find_31 hp hE ⟨⟨by omega, by omega⟩, fun c => ⟨-1, ⟨by decide, by decide⟩, rfl, kk _ (Or.inl rfl)⟩, fun c => absurd c (by omega)⟩
  | succ k ih =>
    intro i hi h12
    exact b_Pr_find_31 hp hE ⟨⟨by omega, by omega⟩, fun c => ⟨-1, ⟨by decide, by decide⟩, rfl, kk _ (Or.inl rfl)⟩, fun c => ⟨⟨by omega, by omega⟩, fun _ => ih (i + 1) (by omega) (by omega), fun _ => ⟨_, ⟨by omega, by omega⟩, rfl, kk _ (Or.inr ⟨by omega, by omega⟩)⟩⟩⟩
theorem l_Pr_find_2 {K : Int → q_H → Prop} {x1 : Int64} (hp : p = 16 ∨ p = 29) (hE : q_E σ) (hw : PW p σ) (kk : ∀ v : Int, (v = -1 ∨ (0 ≤ v ∧ v < z σ p 0) ∨ (12 ≤ v ∧ v - 12 < z σ p 4)) → K v σ) : ∀ (k i : Nat), z σ p 0 ≤ (i : Int) + k → i ≤ 12 → J ω m_Pr_find d 0 0 0 0 2 [(0, .ref p), (1, .long x1), (3, .int (zI (i : Int)))] [] σ (q_ki K) := by
  obtain ⟨w1, w2, -⟩ := id hw
  have nx : J ω m_Pr_find d 0 0 0 0 31 [(0, .ref p), (1, .long x1), (3, .int (zI 0))] [] σ (q_ki K) := l_Pr_find_31 hp hE hw (fun v hv => kk v (hv.imp id Or.inr)) 12 0 (by omega) (by decide)
  intro k
  induction k with
  | zero =>
    intro i hi h12
    exact b_Pr_find_2 hp hE ⟨⟨by omega, by omega⟩, fun c => nx, fun c => absurd c (by omega)⟩
  | succ k ih =>
    intro i hi h12
    exact b_Pr_find_2 hp hE ⟨⟨by omega, by omega⟩, fun c => nx, fun c => ⟨⟨by omega, by omega⟩, fun _ => ih (i + 1) (by omega) (by omega), fun _ => ⟨_, ⟨by omega, by omega⟩, rfl, kk _ (Or.inr (Or.inl ⟨by omega, by omega⟩))⟩⟩⟩
theorem x_find {K : Int → q_H → Prop} {x1 : Int64} (hp : p = 16 ∨ p = 29) (hE : q_E σ) (hw : PW p σ) (kk : ∀ v : Int, (v = -1 ∨ (0 ≤ v ∧ v < z σ p 0) ∨ (12 ≤ v ∧ v - 12 < z σ p 4)) → K v σ) : J ω m_Pr_find d 0 0 0 0 0 [(0, .ref p), (1, .long x1)] [] σ (q_ki K) :=
  b_Pr_find_0 hp hE (l_Pr_find_2 hp hE hw kk 12 0 (by have := hw.1.2; omega) (by decide))
theorem x_note {K : q_H → Prop} {x1 x2 : Int} (hp : p = 16 ∨ p = 29) (hE : q_E σ) (k1 : K σ) (k2 : K (zs (zs σ p 9 x1) p 10 x2)) : J ω m_Pr_note d 0 0 0 0 0 [(0, .ref p), (1, .int (zI x1)), (2, .int (zI x2))] [] σ (q_kv K) :=
  b_Pr_note_0 hp hE ⟨fun _ => ⟨rfl, k1⟩, fun _ => ⟨rfl, k2⟩⟩
theorem x_leastWidth {K : Int → q_H → Prop} {x0 : Int} (hE : q_E σ) (kk : ∀ v, 1 ≤ v ∧ v ≤ 8 → K v σ) : J ω m_Pa_leastWidth d 0 0 0 0 0 [(0, .int (zI x0))] [] σ (q_ki K) := by
  have l : ∀ (k i : Nat), 8 ≤ i + k → 1 ≤ i → i ≤ 8 → J ω m_Pa_leastWidth d 0 0 0 0 2 [(0, .int (zI x0)), (1, .int (zI (i : Int)))] [] σ (q_ki K) := by
    intro k
    induction k with
    | zero =>
      intro i hi h1 h8
      exact b_Pa_leastWidth_2 hE ⟨⟨by omega, by omega⟩, fun c => ⟨_, ⟨by omega, by omega⟩, rfl, kk _ (by omega)⟩, fun c => absurd c (by omega)⟩
    | succ k ih =>
      intro i hi h1 h8
      exact b_Pa_leastWidth_2 hE ⟨⟨by omega, by omega⟩, fun c => ⟨_, ⟨by omega, by omega⟩, rfl, kk _ (by omega)⟩, fun c => ⟨fun _ => ⟨_, ⟨by omega, by omega⟩, rfl, kk _ (by omega)⟩, fun _ => ih (i + 1) (by omega) (by omega) (by omega)⟩⟩
  exact b_Pa_leastWidth_0 hE (l 7 1 (by decide) (by decide) (by decide))
theorem x_named {K : q_H → Prop} (hd : 1 ≤ d) (hp : p = 16 ∨ p = 29) (h : EX T p σ0 σ) (kk : ∀ τ, EX T p σ0 τ → z τ 2 8 = z σ 2 8 → 0 < z τ p 17 → K τ) : J ω m_Pa_named d 0 0 0 0 0 [(0, .ref 8)] [] σ (q_kv K) := by
  obtain ⟨d, rfl⟩ : ∃ k, d = k + 1 := ⟨d - 1, by omega⟩
  obtain ⟨⟨hE, r0, r1⟩, -, -, hw, -⟩ := id h
  obtain ⟨w1, w2, w3, w4⟩ := id hw
  refine b_Pa_named_0 hp r0 r1 hE ⟨EX_c h, x_find hp hE hw (fun v hv => b_Pa_named_14 hp r0 r1 hE ⟨⟨by omega, by omega⟩, fun c => ⟨fun c2 => ?_, fun c2 => ?_⟩, fun c => ?_⟩)⟩
  · have c3 : v - 12 < z σ p 4 := by omega
    refine ⟨⟨by omega, by omega⟩, x_push hp h ⟨by decide, by decide⟩ (fun _ => ⟨by omega, by omega⟩) (w4 _ (by omega)) ⟨by omega, by omega⟩ (Or.inr (by decide)) (fun τ ht e2 _ e17 => ?_)⟩
    obtain ⟨⟨hE2, r02, r12⟩, -⟩ := id ht
    exact b_Pa_named_93 hp r02 r12 hE2 ⟨rfl, kk τ ht e2 e17⟩
  · refine ⟨⟨by omega, by omega⟩, x_push hp h ⟨by decide, by decide⟩ (fun _ => ⟨by omega, by omega⟩) (w3 _ (by omega)) ⟨by omega, by omega⟩ (Or.inr (by decide)) (fun τ ht e2 _ e17 => ?_)⟩
    obtain ⟨⟨hE2, r02, r12⟩, -⟩ := id ht
    exact b_Pa_named_68 hp r02 r12 hE2 ⟨rfl, kk τ ht e2 e17⟩
  · have go : ∀ τ, EX T p σ0 τ → z τ 2 8 = z σ 2 8 → J ω m_Pa_named (d + 1) 0 0 0 0 35 [(0, .ref 8)] [] τ (q_kv K) := by
      intro τ ht e2
      obtain ⟨⟨hE2, r02, r12⟩, -⟩ := id ht
      refine b_Pa_named_35 hp r02 r12 hE2 (x_push hp ht ⟨by decide, by decide⟩ (fun c => absurd c (by decide)) ⟨by decide, by decide⟩ ⟨by decide, by decide⟩ (Or.inr (by decide)) (fun ρ hr e3 _ e17 => ?_))
      obtain ⟨⟨hE3, r03, r13⟩, -⟩ := id hr
      exact b_Pa_named_43 hp r03 r13 hE3 ⟨rfl, kk ρ hr (e3.trans e2) e17⟩
    exact ⟨EX_c h, x_note hp hE (go σ h rfl) (go _ (EX_note hp h) (by rw [z_o (by omega), z_o (by omega)]))⟩
theorem l_Pa_operand_2 {K : Int → q_H → Prop} (hd : 2 ≤ d) (hp : p = 16 ∨ p = 29) {c0 : Int} (kk : ∀ v τ, EX T p σ0 τ → (v = 0 ∨ v = 1) → c0 ≤ z τ 2 8 → (v = 1 → c0 + 1 ≤ z τ 2 8 ∧ 0 < z τ p 17) → K v τ) : ∀ (k i : Nat) (σ : q_H), 4097 ≤ i + k → i ≤ 4097 → EX T p σ0 σ → c0 ≤ z σ 2 8 → J ω m_Pa_operand (d + 1) 0 0 0 0 2 [(0, .ref 8), (1, .int (zI (i : Int)))] [] σ (q_ki K) := by
  have z0 : ∀ σ, EX T p σ0 σ → c0 ≤ z σ 2 8 → q_ki K (.inl (some (.int (zI 0)))) σ := fun σ h hc => ⟨0, ⟨by decide, by decide⟩, rfl, kk 0 σ h (Or.inl rfl) hc (fun e => absurd e (by decide))⟩
  intro k
  induction k with
  | zero =>
    intro i σ hi h1 h hc
    obtain ⟨⟨hE, r0, r1⟩, -⟩ := id h
    exact b_Pa_operand_2 hp r0 r1 hE ⟨⟨by omega, by omega⟩, fun _ => z0 σ h hc, fun c => absurd c (by omega)⟩
  | succ k ih =>
    intro i σ hi h1 h hc
    obtain ⟨⟨hE, r0, r1⟩, -⟩ := id h
    have hk := EX_k h
    have hcc := EX_c h
    refine b_Pa_operand_2 hp r0 r1 hE ⟨⟨by omega, by omega⟩, fun _ => z0 σ h hc, fun c => ⟨fun _ => z0 σ h hc, fun _ => ⟨hcc, fun ck => ?_, fun ck => ?_, fun ck => ?_, fun ck => ?_, fun _ => z0 σ h hc⟩⟩⟩
    · refine x_deepen (by omega) hp h ⟨by decide, by decide⟩ (fun τ ht e2 => ?_)
      obtain ⟨⟨hE2, r02, r12⟩, -⟩ := id ht
      exact b_Pa_operand_149 hp r02 r12 hE2 (ih (i + 1) τ (by omega) (by omega) ht (by omega))
    · refine x_deepen (by omega) hp h (by omega) (fun τ ht e2 => ?_)
      obtain ⟨⟨hE2, r02, r12⟩, -⟩ := id ht
      exact b_Pa_operand_140 hp r02 r12 hE2 (ih (i + 1) τ (by omega) (by omega) ht (by omega))
    · refine x_leastWidth hE (fun v hv => b_Pa_operand_117 hp r0 r1 hE ?_)
      have hn := hk.2.2.2 ck
      refine x_push hp h ⟨by decide, by decide⟩ (fun c => absurd c (by decide)) hv ⟨by omega, by omega⟩ (Or.inr (by decide)) (fun τ ht e2 _ e17 => ?_)
      obtain ⟨⟨hE2, r02, r12⟩, fτ, -⟩ := id ht
      obtain ⟨-, fσ, -⟩ := id h
      have e4 : z τ 4 = z σ 4 := by rw [fr_zF fτ (by simp; omega), fr_zF fσ (by simp; omega)]
      refine b_Pa_operand_120 hp r02 r12 hE2 (x_adv hp (EX_self ht) (fun ρ hr0 g1 g2 => ?_))
      have hr := EX_tr ht hr0
      have h17 := hr0.2.2.2.2.2.2.2.2.2.2.1.2.1
      obtain ⟨⟨hE3, r03, r13⟩, -⟩ := id hr
      have g3 := g2 (by rw [e2, e4, ck]; decide)
      exact b_Pa_operand_127 hp r03 r13 hE3 ⟨1, ⟨by decide, by decide⟩, rfl, kk 1 ρ hr (Or.inr rfl) (by omega) (fun _ => ⟨by omega, by omega⟩)⟩
    · refine x_named (by omega) hp h (fun τ ht e2 e17 => ?_)
      obtain ⟨⟨hE2, r02, r12⟩, fτ, -⟩ := id ht
      obtain ⟨-, fσ, -⟩ := id h
      have e4 : z τ 4 = z σ 4 := by rw [fr_zF fτ (by simp; omega), fr_zF fσ (by simp; omega)]
      refine b_Pa_operand_88 hp r02 r12 hE2 (x_adv hp (EX_self ht) (fun ρ hr0 g1 g2 => ?_))
      have hr := EX_tr ht hr0
      have h17 := hr0.2.2.2.2.2.2.2.2.2.2.1.2.1
      obtain ⟨⟨hE3, r03, r13⟩, -⟩ := id hr
      have g3 := g2 (by rw [e2, e4, ck]; decide)
      exact b_Pa_operand_95 hp r03 r13 hE3 ⟨1, ⟨by decide, by decide⟩, rfl, kk 1 ρ hr (Or.inr rfl) (by omega) (fun _ => ⟨by omega, by omega⟩)⟩
theorem x_operand {K : Int → q_H → Prop} (hd : 3 ≤ d) (hp : p = 16 ∨ p = 29) (h : EX T p σ0 σ) (kk : ∀ v τ, EX T p σ0 τ → (v = 0 ∨ v = 1) → z σ 2 8 ≤ z τ 2 8 → (v = 1 → z σ 2 8 + 1 ≤ z τ 2 8 ∧ 0 < z τ p 17) → K v τ) : J ω m_Pa_operand d 0 0 0 0 0 [(0, .ref 8)] [] σ (q_ki K) := by
  obtain ⟨d, rfl⟩ : ∃ k, d = k + 1 := ⟨d - 1, by omega⟩
  obtain ⟨⟨hE, r0, r1⟩, -⟩ := id h
  exact b_Pa_operand_0 hp r0 r1 hE (l_Pa_operand_2 (by omega) hp kk 4097 0 σ (by decide) (by decide) h (Int.le_refl _))
end PaX
