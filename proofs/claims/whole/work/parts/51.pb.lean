/-! THE PARSER, safety: apply, reduce, follow, expression -/
section PbX
variable {ω : q_W} {d T p : Nat} {σ0 σ : q_H}
theorem l_Pa_apply_201 {K : q_H → Prop} {y0 : Int} (hp : p = 16 ∨ p = 29) (h : EX T p σ0 σ) (hy : 0 ≤ y0 ∧ y0 ≤ 100) (kk : ∀ τ, EX T p σ0 τ → z τ 2 8 = z σ 2 8 → z τ 8 10 = z σ 8 10 → K τ) : J ω m_Pa_apply (d + 1) 0 0 0 0 201 [(0, .ref 8)] [.int (zI y0)] σ (q_kv K) := by
  obtain ⟨⟨hE, r0, r1⟩, -, -, -, -, -, -, -, -, -, -, ⟨k1, k2⟩, -⟩ := id h
  refine b_Pa_apply_201 hp r0 r1 hE ⟨⟨by omega, by omega⟩, rfl, kk _ (EX_8 hp h (by decide) ⟨by omega, by omega⟩ (fun c => absurd c (by decide)) (fun c => absurd c (by decide)) (fun _ => ⟨by omega, by omega⟩)) ?_ ?_⟩
  · exact z_o (by decide)
  · exact z_k (by decide)
theorem l_Pa_apply_156 {K : q_H → Prop} {x1 x6 y0 : Int} (hp : p = 16 ∨ p = 29) (h : EX T p σ0 σ) (h1 : 1 ≤ x1 ∧ x1 ≤ 22) (h6 : 1 ≤ x6 ∧ x6 ≤ 8) (hy : 1 ≤ y0 ∧ y0 ≤ 8) (h0 : 0 < z σ p 17) (kk : ∀ τ, EX T p σ0 τ → z τ 2 8 = z σ 2 8 → z τ 8 10 = z σ 8 10 → K τ) : J ω m_Pa_apply (d + 1) 0 0 0 0 156 [(0, .ref 8), (1, .int (zI x1)), (6, .int (zI x6))] [.int (zI y0)] σ (q_kv K) := by
  obtain ⟨⟨hE, r0, r1⟩, -⟩ := id h
  refine b_Pa_apply_156 hp r0 r1 hE (x_push hp h ⟨by omega, by omega⟩ (fun c => absurd c (by omega)) hy ⟨by decide, by decide⟩ (Or.inl h0) (fun τ ht e2 e8 _ => ?_))
  obtain ⟨⟨hE2, r02, r12⟩, -⟩ := id ht
  have kk2 : ∀ ρ, EX T p σ0 ρ → z ρ 2 8 = z τ 2 8 → z ρ 8 10 = z τ 8 10 → K ρ := fun ρ hr a b => kk ρ hr (a.trans e2) (b.trans e8)
  have m2 : x6 * x6 ≤ 64 ∧ 0 ≤ x6 * x6 := by
    have a := Int.mul_le_mul h6.2 h6.2 (by omega) (by decide)
    have b := Int.mul_nonneg (show 0 ≤ x6 by omega) (show 0 ≤ x6 by omega)
    omega
  exact b_Pa_apply_166 hp r02 r12 hE2 ⟨⟨by omega, by omega⟩, fun _ => ⟨⟨by omega, by omega⟩, fun _ => l_Pa_apply_201 hp ht (by omega) kk2, fun _ => l_Pa_apply_201 hp ht (by omega) kk2⟩, fun _ => l_Pa_apply_201 hp ht (by omega) kk2⟩
theorem l_Pa_apply_94 {K : q_H → Prop} {x1 x3 x4 y0 : Int} (hp : p = 16 ∨ p = 29) (h : EX T p σ0 σ) (h1 : 1 ≤ x1 ∧ x1 ≤ 22) (h3 : 1 ≤ x3 ∧ x3 ≤ 8) (h4 : 1 ≤ x4 ∧ x4 ≤ 8) (hy : 1 ≤ y0 ∧ y0 ≤ 8) (h0 : 0 < z σ p 17) (kk : ∀ τ, EX T p σ0 τ → z τ 2 8 = z σ 2 8 → z τ 8 10 = z σ 8 10 → K τ) : J ω m_Pa_apply (d + 1) 0 0 0 0 94 [(0, .ref 8), (1, .int (zI x1)), (3, .int (zI x3)), (4, .int (zI x4))] [.int (zI y0)] σ (q_kv K) := by
  obtain ⟨⟨hE, r0, r1⟩, -⟩ := id h
  have b1 : (0 ≤ x1 ∧ x1 < 23) := by omega
  have m1 : 1 ≤ max x4 y0 ∧ max x4 y0 ≤ 8 := by omega
  have m2 : 1 ≤ max x3 (max x4 y0) ∧ max x3 (max x4 y0) ≤ 8 := by omega
  exact b_Pa_apply_94 hp r0 r1 hE ⟨⟨by omega, by omega⟩, ⟨by omega, by omega⟩, ⟨by omega, by omega⟩, ⟨by omega, by omega⟩, b1, fun _ => ⟨b1, fun _ => ⟨b1, fun _ => l_Pa_apply_156 hp h h1 m2 m2 h0 kk, fun _ => l_Pa_apply_156 hp h h1 m2 m1 h0 kk⟩, fun _ => l_Pa_apply_156 hp h h1 m2 h3 h0 kk⟩, fun _ => l_Pa_apply_156 hp h h1 m2 ⟨by decide, by decide⟩ h0 kk⟩
theorem l_Pa_apply_21 {K : q_H → Prop} {x1 y0 : Int} (hp : p = 16 ∨ p = 29) (h : EX T p σ0 σ) (h1 : 1 ≤ x1 ∧ x1 ≤ 22) (hy : 1 ≤ y0 ∧ y0 ≤ 3) (kk : ∀ τ, EX T p σ0 τ → z τ 2 8 = z σ 2 8 → z τ 8 10 = z σ 8 10 → K τ) : J ω m_Pa_apply (d + 1) 0 0 0 0 21 [(0, .ref 8), (1, .int (zI x1))] [.int (zI y0)] σ (q_kv K) := by
  obtain ⟨⟨hE, r0, r1⟩, -, -, -, -, -, -, -, -, ⟨t1, t2, t3⟩, -, -, ⟨eo1, eo2⟩⟩ := id h
  refine b_Pa_apply_21 hp r0 r1 hE ⟨⟨by omega, by omega⟩, fun c => ?_, fun c => ⟨rfl, kk σ h rfl rfl⟩⟩
  have h2 : EX T p σ0 (zs σ 8 12 (z σ 8 12 - y0)) := EX_8 hp h (by decide) ⟨by omega, by omega⟩ (fun c => absurd c (by decide)) (fun _ => ⟨by omega, by omega⟩) (fun c => absurd c (by decide))
  have kk2 : ∀ τ, EX T p σ0 τ → z τ 2 8 = z (zs σ 8 12 (z σ 8 12 - y0)) 2 8 → z τ 8 10 = z (zs σ 8 12 (z σ 8 12 - y0)) 8 10 → K τ := fun τ ht a b => kk τ ht (a.trans (z_o (by decide))) (b.trans (z_k (by decide)))
  have h0 : 0 < z (zs σ 8 12 (z σ 8 12 - y0)) p 17 := by rw [z_o (by omega)]; exact eo1 (by omega)
  have e12 : z (zs σ 8 12 (z σ 8 12 - y0)) 8 12 = z σ 8 12 - y0 := z_s ⟨by omega, by omega⟩
  have e15 : ∀ j, z (zs σ 8 12 (z σ 8 12 - y0)) 15 j = z σ 15 j := fun j => z_o (by decide)
  obtain ⟨⟨hE2, r02, r12⟩, -⟩ := id h2
  have g : ∀ x3 x4 : Int, 1 ≤ x3 ∧ x3 ≤ 8 → 1 ≤ x4 ∧ x4 ≤ 8 → J ω m_Pa_apply (d + 1) 0 0 0 0 71 [(0, .ref 8), (1, .int (zI x1)), (2, .int (zI y0)), (3, .int (zI x3))] [.int (zI x4)] (zs σ 8 12 (z σ 8 12 - y0)) (q_kv K) := by
    intro x3 x4 h3 h4
    refine b_Pa_apply_71 hp r02 r12 hE2 ⟨⟨by omega, by omega⟩, fun _ => l_Pa_apply_94 hp h2 h1 h3 h4 h4 h0 kk2, fun c3 => ?_⟩
    rw [e12, e15]
    exact ⟨⟨by omega, by omega⟩, l_Pa_apply_94 hp h2 h1 h3 h4 (t3 _ (by omega)) h0 kk2⟩
  exact ⟨⟨by omega, by omega⟩, fun c2 => g _ _ (t3 _ (by omega)) (t3 _ (by omega)), fun c2 => ⟨⟨by omega, by omega⟩, g _ _ (t3 _ (by omega)) (t3 _ (by omega))⟩⟩
theorem x_apply {K : q_H → Prop} {x1 : Int} (hd : 1 ≤ d) (hp : p = 16 ∨ p = 29) (h : EX T p σ0 σ) (h1 : 1 ≤ x1 ∧ x1 ≤ 22) (kk : ∀ τ, EX T p σ0 τ → z τ 2 8 = z σ 2 8 → z τ 8 10 = z σ 8 10 → K τ) : J ω m_Pa_apply d 0 0 0 0 0 [(0, .ref 8), (1, .int (zI x1))] [] σ (q_kv K) := by
  obtain ⟨d, rfl⟩ : ∃ k, d = k + 1 := ⟨d - 1, by omega⟩
  obtain ⟨⟨hE, r0, r1⟩, -⟩ := id h
  exact b_Pa_apply_0 hp r0 r1 hE ⟨⟨by omega, by omega⟩, fun _ => ⟨fun _ => l_Pa_apply_21 hp h h1 ⟨by decide, by decide⟩ kk, fun _ => l_Pa_apply_21 hp h h1 ⟨by decide, by decide⟩ kk⟩, fun _ => l_Pa_apply_21 hp h h1 ⟨by decide, by decide⟩ kk⟩
theorem EX_10 (hp : p = 16 ∨ p = 29) (h : EX T p σ0 σ) (h0 : 0 < z σ 8 10) : EX T p σ0 (zs σ 8 10 (z σ 8 10 - 1)) := by
  have := h.2.2.2.2.2.2.2.2.1
  exact EX_8 hp h (by decide) ⟨by omega, by omega⟩ (fun _ => ⟨by omega, by omega⟩) (fun c => absurd c (by decide)) (fun c => absurd c (by decide))
theorem l_Pa_reduce_0 {K : q_H → Prop} {x1 : Int} (hd : 1 ≤ d) (hp : p = 16 ∨ p = 29) (hx : inR x1) {c0 : Int} (kk : ∀ τ, EX T p σ0 τ → z τ 2 8 = c0 → K τ) : ∀ (n : Nat) (σ : q_H), z σ 8 10 ≤ n → EX T p σ0 σ → z σ 2 8 = c0 → J ω m_Pa_reduce (d + 1) 0 0 0 0 0 [(0, .ref 8), (1, .int (zI x1))] [] σ (q_kv K) := by
  intro n
  induction n with
  | zero =>
    intro σ hn h hc
    obtain ⟨⟨hE, r0, r1⟩, -⟩ := id h
    exact b_Pa_reduce_0 hp r0 r1 hE ⟨fun _ => ⟨rfl, kk σ h hc⟩, fun c => absurd c (by omega)⟩
  | succ n ih =>
    intro σ hn h hc
    obtain ⟨⟨hE, r0, r1⟩, -⟩ := id h
    refine b_Pa_reduce_0 hp r0 r1 hE ⟨fun _ => ⟨rfl, kk σ h hc⟩, fun c => x_topSign hp h (fun v _ hv => ?_)⟩
    have hv := hv c
    refine b_Pa_reduce_11 hp r0 r1 hE ⟨⟨by omega, by omega⟩, fun _ => ⟨rfl, kk σ h hc⟩, fun c2 => x_topSign hp h (fun v2 _ hv2 => ?_)⟩
    have hv2 := hv2 c
    refine b_Pa_reduce_23 hp r0 r1 hE ⟨⟨by omega, by omega⟩, hx, fun _ => ⟨rfl, kk σ h hc⟩, fun _ => x_topSign hp h (fun v3 _ hv3 => ?_)⟩
    have hv3 := hv3 c
    have go : ∀ ρ, EX T p σ0 ρ → z ρ 2 8 = z σ 2 8 → z ρ 8 10 = z σ 8 10 → z ρ 14 = z σ 14 → J ω m_Pa_reduce (d + 1) 0 0 0 0 47 [(0, .ref 8), (1, .int (zI x1))] [] ρ (q_kv K) := by
      intro ρ hr e2 e10 e14
      obtain ⟨⟨hE2, r02, r12⟩, -⟩ := id hr
      refine b_Pa_reduce_47 hp r02 r12 hE2 (x_topSign hp hr (fun v4 _ hv4 => b_Pa_reduce_52 hp r02 r12 hE2 ?_))
      have hv4 := hv4 (by omega)
      rw [e10, e14] at hv4
      refine x_apply hd hp hr (by omega) (fun τ ht a2 a10 => ?_)
      obtain ⟨⟨hE3, r03, r13⟩, -⟩ := id ht
      refine b_Pa_reduce_55 hp r03 r13 hE3 (ih _ ?_ (EX_10 hp ht (by omega)) ?_)
      · have := ht.2.2.2.2.2.2.2.2.1.2.1
        rw [z_s ⟨by omega, by omega⟩]; omega
      · rw [z_o (by decide), a2, e2, hc]
    refine b_Pa_reduce_32 hp r0 r1 hE ⟨⟨by omega, by omega⟩, fun _ => go σ h rfl rfl rfl, fun _ => go _ (EX_13 hp h) (z_o (by decide)) (z_k (by decide)) (z_oF (by decide))⟩
theorem x_reduce {K : q_H → Prop} {x1 : Int} (hd : 2 ≤ d) (hp : p = 16 ∨ p = 29) (h : EX T p σ0 σ) (hx : inR x1) (kk : ∀ τ, EX T p σ0 τ → z τ 2 8 = z σ 2 8 → K τ) : J ω m_Pa_reduce d 0 0 0 0 0 [(0, .ref 8), (1, .int (zI x1))] [] σ (q_kv K) := by
  obtain ⟨d, rfl⟩ : ∃ k, d = k + 1 := ⟨d - 1, by omega⟩
  exact l_Pa_reduce_0 (by omega) hp hx kk 400 σ h.2.2.2.2.2.2.2.2.1.2.1 h rfl
theorem l_Pa_reduceChoices_0 {K : q_H → Prop} (hd : 1 ≤ d) (hp : p = 16 ∨ p = 29) {c0 : Int} (kk : ∀ τ, EX T p σ0 τ → z τ 2 8 = c0 → K τ) : ∀ (n : Nat) (σ : q_H), z σ 8 10 ≤ n → EX T p σ0 σ → z σ 2 8 = c0 → J ω m_Pa_reduceChoices (d + 1) 0 0 0 0 0 [(0, .ref 8)] [] σ (q_kv K) := by
  intro n
  induction n with
  | zero =>
    intro σ hn h hc
    obtain ⟨⟨hE, r0, r1⟩, -⟩ := id h
    exact b_Pa_reduceChoices_0 hp r0 r1 hE ⟨fun _ => ⟨rfl, kk σ h hc⟩, fun c => absurd c (by omega)⟩
  | succ n ih =>
    intro σ hn h hc
    obtain ⟨⟨hE, r0, r1⟩, -⟩ := id h
    refine b_Pa_reduceChoices_0 hp r0 r1 hE ⟨fun _ => ⟨rfl, kk σ h hc⟩, fun c => x_topSign hp h (fun v _ hv => ?_)⟩
    have hv := hv c
    refine b_Pa_reduceChoices_11 hp r0 r1 hE ⟨⟨by omega, by omega⟩, fun _ => ⟨rfl, kk σ h hc⟩, fun c2 => x_apply hd hp h ⟨by decide, by decide⟩ (fun τ ht a2 a10 => ?_)⟩
    obtain ⟨⟨hE3, r03, r13⟩, -⟩ := id ht
    refine b_Pa_reduceChoices_22 hp r03 r13 hE3 (ih _ ?_ (EX_13 hp (EX_10 hp ht (by omega))) ?_)
    · have := ht.2.2.2.2.2.2.2.2.1.2.1
      rw [z_k (by decide), z_s ⟨by omega, by omega⟩]; omega
    · rw [z_o (by decide), z_o (by decide), a2, hc]
theorem x_reduceChoices {K : q_H → Prop} (hd : 2 ≤ d) (hp : p = 16 ∨ p = 29) (h : EX T p σ0 σ) (kk : ∀ τ, EX T p σ0 τ → z τ 2 8 = z σ 2 8 → K τ) : J ω m_Pa_reduceChoices d 0 0 0 0 0 [(0, .ref 8)] [] σ (q_kv K) := by
  obtain ⟨d, rfl⟩ : ∃ k, d = k + 1 := ⟨d - 1, by omega⟩
  exact l_Pa_reduceChoices_0 (by omega) hp kk 400 σ h.2.2.2.2.2.2.2.2.1.2.1 h rfl
theorem zT_R (l : List Int32) (e : Int) : inR (zT l e) := inR_of _
theorem l_Pa_follow_2 {K : Int → q_H → Prop} (hd : 3 ≤ d) (hp : p = 16 ∨ p = 29) {c0 : Int} (kk : ∀ v τ, EX T p σ0 τ → (v = 0 ∨ v = 1) → c0 ≤ z τ 2 8 → K v τ) : ∀ (k i : Nat) (σ : q_H), 4097 ≤ i + k → i ≤ 4097 → EX T p σ0 σ → c0 ≤ z σ 2 8 → J ω m_Pa_follow (d + 1) 0 0 0 0 2 [(0, .ref 8), (1, .int (zI (i : Int)))] [] σ (q_ki K) := by
  have zv : ∀ (v : Int) σ, (v = 0 ∨ v = 1) → EX T p σ0 σ → c0 ≤ z σ 2 8 → q_ki K (.inl (some (.int (zI v)))) σ := fun v σ hv h hc => ⟨v, ⟨by omega, by omega⟩, rfl, kk v σ h hv hc⟩
  intro k
  induction k with
  | zero =>
    intro i σ hi h1 h hc
    obtain ⟨⟨hE, r0, r1⟩, -⟩ := id h
    exact b_Pa_follow_2 hp r0 r1 hE ⟨⟨by omega, by omega⟩, fun _ => zv 0 σ (Or.inl rfl) h hc, fun c => absurd c (by omega)⟩
  | succ k ih =>
    intro i σ hi h1 h hc
    obtain ⟨⟨hE, r0, r1⟩, -⟩ := id h
    have hk := EX_k h
    have g111 : ∀ (x2 : Int) ρ, inR x2 → EX T p σ0 ρ → c0 ≤ z ρ 2 8 → i < 4097 → J ω m_Pa_follow (d + 1) 0 0 0 0 111 [(0, .ref 8), (1, .int (zI (i : Int))), (2, .int (zI x2))] [] ρ (q_ki K) := by
      intro x2 ρ hx hr hcr hi2
      obtain ⟨⟨hE2, r02, r12⟩, -⟩ := id hr
      refine b_Pa_follow_111 hp r02 r12 hE2 ⟨hx, fun _ => zv 0 ρ (Or.inl rfl) hr hcr, fun _ => x_topSign hp hr (fun v h0 hv => b_Pa_follow_121 hp r02 r12 hE2 ⟨?_, fun c35 => ?_, fun _ => zv 0 ρ (Or.inl rfl) hr hcr⟩)⟩
      · rcases Int.lt_or_le 0 (z ρ 8 10) with c | c
        · have := hv c; exact ⟨by omega, by omega⟩
        · rw [h0 c]; exact ⟨by decide, by decide⟩
      · have h10 : 0 < z ρ 8 10 := by
          rcases Int.lt_or_le 0 (z ρ 8 10) with c | c
          · exact c
          · have := h0 c; omega
        refine x_adv hp (EX_13 hp (EX_10 hp hr h10)) (fun τ ht a1 a2 => ?_)
        rw [z_o (by decide), z_o (by decide)] at a1
        obtain ⟨⟨hE3, r03, r13⟩, -⟩ := id ht
        exact b_Pa_follow_155 hp r03 r13 hE3 (ih (i + 1) τ (by omega) (by omega) ht (by omega))
    have g51 : ∀ (x2 : Int), inR x2 → i < 4097 → J ω m_Pa_follow (d + 1) 0 0 0 0 51 [(0, .ref 8), (1, .int (zI (i : Int))), (2, .int (zI x2))] [] σ (q_ki K) := by
      intro x2 hx hi2
      refine b_Pa_follow_51 hp r0 r1 hE (x_reduce (by omega) hp h ⟨by decide, by decide⟩ (fun ρ hr e2 => ?_))
      obtain ⟨⟨hE2, r02, r12⟩, -⟩ := id hr
      refine b_Pa_follow_56 hp r02 r12 hE2 ⟨hx, fun _ => x_reduceChoices (by omega) hp hr (fun τ ht e3 => ?_), fun _ => x_deepen (by omega) hp hr ⟨by decide, by decide⟩ (fun τ ht e3 => ?_)⟩
      · obtain ⟨⟨hE3, r03, r13⟩, -⟩ := id ht
        refine b_Pa_follow_74 hp r03 r13 hE3 ⟨hx, fun _ => g111 x2 τ hx ht (by omega) hi2, fun _ => x_topSign hp ht (fun v h0 hv => b_Pa_follow_84 hp r03 r13 hE3 ⟨?_, fun _ => g111 x2 τ hx ht (by omega) hi2, fun c34 => ?_⟩)⟩
        · rcases Int.lt_or_le 0 (z τ 8 10) with c | c
          · have := hv c; exact ⟨by omega, by omega⟩
          · rw [h0 c]; exact ⟨by decide, by decide⟩
        · have h10 : 0 < z τ 8 10 := by
            rcases Int.lt_or_le 0 (z τ 8 10) with c | c
            · exact c
            · have := h0 c; omega
          have := ht.2.2.2.2.2.2.2.2.1
          refine ⟨⟨by omega, by omega⟩, x_adv hp (EX_14 hp ht ⟨by decide, by decide⟩) (fun ρ2 hr2 a1 a2 => ?_)⟩
          rw [z_o (by decide)] at a1
          obtain ⟨⟨hE4, r04, r14⟩, -⟩ := id hr2
          exact b_Pa_follow_109 hp r04 r14 hE4 (zv 1 ρ2 (Or.inr rfl) hr2 (by omega))
      · obtain ⟨⟨hE3, r03, r13⟩, -⟩ := id ht
        exact b_Pa_follow_68 hp r03 r13 hE3 (zv 1 τ (Or.inr rfl) ht (by omega))
    refine b_Pa_follow_2 hp r0 r1 hE ⟨⟨by omega, by omega⟩, fun _ => zv 0 σ (Or.inl rfl) h hc, fun ci => ⟨EX_c h, fun _ => g51 _ (z_R _ _ _) (by omega), fun c1 => ⟨fun _ => g51 _ (z_R _ _ _) (by omega), fun c18 => ⟨⟨by omega, by omega⟩, x_reduce (by omega) hp h (zT_R _ _) (fun ρ hr e2 => ?_)⟩⟩⟩⟩
    obtain ⟨⟨hE2, r02, r12⟩, -⟩ := id hr
    refine b_Pa_follow_37 hp r02 r12 hE2 (x_pushSign hp hr (by omega) (fun τ ht e3 _ => ?_))
    obtain ⟨⟨hE3, r03, r13⟩, -⟩ := id ht
    refine b_Pa_follow_42 hp r03 r13 hE3 (x_adv hp ht (fun ρ2 hr2 a1 a2 => ?_))
    obtain ⟨⟨hE4, r04, r14⟩, -⟩ := id hr2
    exact b_Pa_follow_49 hp r04 r14 hE4 (zv 1 ρ2 (Or.inr rfl) hr2 (by omega))
theorem x_follow {K : Int → q_H → Prop} (hd : 4 ≤ d) (hp : p = 16 ∨ p = 29) (h : EX T p σ0 σ) (kk : ∀ v τ, EX T p σ0 τ → (v = 0 ∨ v = 1) → z σ 2 8 ≤ z τ 2 8 → K v τ) : J ω m_Pa_follow d 0 0 0 0 0 [(0, .ref 8)] [] σ (q_ki K) := by
  obtain ⟨d, rfl⟩ : ∃ k, d = k + 1 := ⟨d - 1, by omega⟩
  obtain ⟨⟨hE, r0, r1⟩, -⟩ := id h
  exact b_Pa_follow_0 hp r0 r1 hE (l_Pa_follow_2 (by omega) hp kk 4097 0 σ (by decide) (by decide) h (Int.le_refl _))
/-- before an EXPR -/
def BX (T p : Nat) (σ : q_H) : Prop := (q_E σ ∧ q_r σ 8 0 = 2 ∧ q_r σ 8 1 = p) ∧ KT T σ ∧ PW p σ ∧ (0 ≤ z σ 2 8 ∧ z σ 2 8 ≤ T) ∧ (0 ≤ z σ p 17 ∧ z σ p 17 ≤ 4096 ∧ (∀ i : Nat, (i : Int) < z σ p 17 → IT σ p i) ∧ (0 < z σ p 17 → 23 ≤ z σ (p + 10) 0))
theorem EX_B (h : EX T p σ0 σ) : BX T p σ := by
  obtain ⟨a, b, c, w, d, e1, f1, g1, s1, t1, i1, k1⟩ := h
  exact ⟨a, c, w, ⟨by omega, e1.2.2⟩, ⟨by omega, i1.2.2.1, i1.2.2.2, k1.2.2⟩⟩
theorem EX_0 {x1 : Int} (hp : p = 16 ∨ p = 29) (h : BX T p σ) : EX T p σ (zs (zs (zs (zs σ 8 13 x1) 8 10 0) 8 12 0) 8 14 0) := by
  obtain ⟨⟨a1, a2, a3⟩, ⟨c1, c2, c3⟩, ⟨w1, w2, w3, w4⟩, e1, i1⟩ := h
  have o : ∀ a j, a ≠ 8 → z (zs (zs (zs (zs σ 8 13 x1) 8 10 0) 8 12 0) 8 14 0) a j = z σ a j := fun a j h => by rw [z_o h, z_o h, z_o h, z_o h]
  have hp8 : p ≠ 8 := by omega
  have e10 : z (zs (zs (zs (zs σ 8 13 x1) 8 10 0) 8 12 0) 8 14 0) 8 10 = 0 := by rw [z_k (by decide), z_k (by decide), z_s ⟨by decide, by decide⟩]
  have e12 : z (zs (zs (zs (zs σ 8 13 x1) 8 10 0) 8 12 0) 8 14 0) 8 12 = 0 := by rw [z_k (by decide), z_s ⟨by decide, by decide⟩]
  have e14 : z (zs (zs (zs (zs σ 8 13 x1) 8 10 0) 8 12 0) 8 14 0) 8 14 = 0 := by rw [z_s ⟨by decide, by decide⟩]
  refine ⟨⟨zs_E (zs_E (zs_E (zs_E a1))), a2, a3⟩, fr_s (fr_s (fr_s (fr_s fr_refl (by simp)) (by simp)) (by simp)) (by simp), ⟨c1, ?_, ?_⟩, ⟨?_, ?_, ?_, ?_⟩, ?_, ?_, ?_, ?_, ?_, ?_, ?_, ?_⟩
  · rw [o 2 _ (by decide)]; exact c2
  · intro i hi; rw [o 4 _ (by decide)]; exact c3 i hi
  · rw [o p _ hp8]; exact w1
  · rw [o p _ hp8]; exact w2
  · intro i; rw [o p _ hp8, o (p + 1) _ (by omega)]; exact w3 i
  · intro i; rw [o p _ hp8, o (p + 3) _ (by omega)]; exact w4 i
  · intro j hj; exact o 2 _ (by decide)
  · rw [o 2 _ (by decide)]; omega
  · intro j _ _ _; exact o p _ hp8
  · intro j hj; rw [z_k (by omega), z_k (by omega), z_k (by omega), z_k (by omega)]
  · rw [e10]; exact ⟨by decide, by decide, fun i hi => absurd hi (by omega)⟩
  · rw [e12]; exact ⟨by decide, by decide, fun i hi => absurd hi (by omega)⟩
  · rw [o p _ hp8]; refine ⟨i1.1, Int.le_refl _, i1.2.1, fun i => ?_⟩; unfold IT; rw [o (p + 10) _ (by omega), o (p + 11) _ (by omega), o (p + 12) _ (by omega)]; exact i1.2.2.1 i
  · refine ⟨by rw [e14]; exact ⟨by decide, by decide⟩, by rw [e12]; exact fun h => absurd h (by decide), ?_⟩
    rw [o p _ hp8, o (p + 10) _ (by omega)]; exact i1.2.2.2
theorem l_Pa_expression_27 {K : Int → q_H → Prop} (hd : 4 ≤ d) (hp : p = 16 ∨ p = 29) {c0 : Int} (kk : ∀ v τ, EX T p σ0 τ → (v = -1 ∨ (0 ≤ v ∧ v ≤ 1501 ∧ c0 + 1 ≤ z τ 2 8 ∧ 0 < z τ p 17)) → K v τ) : ∀ (k i : Nat) (x2 : Int) (σ : q_H), 4096 ≤ i + k → i ≤ 4096 → (x2 = 0 ∨ x2 = 1) → (x2 = 1 → c0 + 1 ≤ z σ 2 8 ∧ 0 < z σ p 17) → EX T p σ0 σ → J ω m_Pa_expression (d + 1) 0 0 0 0 27 [(0, .ref 8), (2, .int (zI x2)), (3, .int (zI (i : Int)))] [] σ (q_ki K) := by
  have g56 : ∀ (x2 : Int) σ, (x2 = 0 ∨ x2 = 1) → (x2 = 1 → c0 + 1 ≤ z σ 2 8 ∧ 0 < z σ p 17) → EX T p σ0 σ → J ω m_Pa_expression (d + 1) 0 0 0 0 56 [(0, .ref 8), (2, .int (zI x2))] [] σ (q_ki K) := by
    intro x2 σ hx hc h
    obtain ⟨⟨hE, r0, r1⟩, -, -, -, -, -, -, -, -, -, -, ⟨k1, k2⟩, -⟩ := id h
    exact b_Pa_expression_56 hp r0 r1 hE ⟨⟨by omega, by omega⟩, fun _ => ⟨-1, ⟨by decide, by decide⟩, rfl, kk _ _ h (Or.inl rfl)⟩, fun c => ⟨fun _ => ⟨-1, ⟨by decide, by decide⟩, rfl, kk _ _ h (Or.inl rfl)⟩, fun _ => ⟨_, ⟨by omega, by omega⟩, rfl, kk _ _ h (Or.inr ⟨k1, k2, hc (by omega)⟩)⟩⟩⟩
  intro k
  induction k with
  | zero =>
    intro i x2 σ hi h1 hx hc h
    obtain ⟨⟨hE, r0, r1⟩, -⟩ := id h
    exact b_Pa_expression_27 hp r0 r1 hE ⟨⟨by omega, by omega⟩, fun _ => g56 x2 σ hx hc h, fun c => absurd c (by omega)⟩
  | succ k ih =>
    intro i x2 σ hi h1 hx hc h
    obtain ⟨⟨hE, r0, r1⟩, -⟩ := id h
    refine b_Pa_expression_27 hp r0 r1 hE ⟨⟨by omega, by omega⟩, fun _ => g56 x2 σ hx hc h, fun ci => ⟨⟨by omega, by omega⟩, fun _ => g56 x2 σ hx hc h, fun cx => x_follow hd hp (EX_self h) (fun v τ ht0 hv e2 => ?_)⟩⟩
    have ht := EX_tr h ht0
    have h17 := ht0.2.2.2.2.2.2.2.2.2.2.1.2.1
    have hc1 := hc (by omega)
    obtain ⟨⟨hE2, r02, r12⟩, -⟩ := id ht
    refine b_Pa_expression_42 hp r02 r12 hE2 ⟨⟨by omega, by omega⟩, fun _ => g56 x2 τ hx (fun _ => ⟨by omega, by omega⟩) ht, fun _ => x_operand (by omega) hp ht (fun v2 ρ hr hv2 e3 e4 => ?_)⟩
    obtain ⟨⟨hE3, r03, r13⟩, -⟩ := id hr
    exact b_Pa_expression_49 hp r03 r13 hE3 (ih (i + 1) v2 ρ (by omega) (by omega) hv2 (fun c => ⟨by omega, (e4 c).2⟩) hr)
theorem x_expression {K : Int → q_H → Prop} {x1 : Int} (hd : 5 ≤ d) (hp : p = 16 ∨ p = 29) (h : BX T p σ) (kk : ∀ v τ, EX T p σ τ → (v = -1 ∨ (0 ≤ v ∧ v ≤ 1501 ∧ z σ 2 8 + 1 ≤ z τ 2 8 ∧ 0 < z τ p 17)) → K v τ) : J ω m_Pa_expression d 0 0 0 0 0 [(0, .ref 8), (1, .int (zI x1))] [] σ (q_ki K) := by
  obtain ⟨d, rfl⟩ : ∃ k, d = k + 1 := ⟨d - 1, by omega⟩
  obtain ⟨⟨hE, r0, r1⟩, -⟩ := id h
  have h0 := EX_0 (x1 := x1) hp h
  refine b_Pa_expression_0 hp r0 r1 hE (x_operand (by omega) hp h0 (fun v τ ht hv e2 e3 => ?_))
  obtain ⟨⟨hE2, r02, r12⟩, -⟩ := id ht
  have e0 : z (zs (zs (zs (zs σ 8 13 x1) 8 10 0) 8 12 0) 8 14 0) 2 8 = z σ 2 8 := by rw [z_o (by decide), z_o (by decide), z_o (by decide), z_o (by decide)]
  rw [e0] at e2 e3
  exact b_Pa_expression_24 hp r02 r12 hE2 (l_Pa_expression_27 (by omega) hp kk 4096 0 v τ (by decide) (by decide) hv e3 ht)
end PbX
