/-! THE ENCODER: the INPUTS' words, with the gates that they make -/
def LFq (t : Nat) (ρ : q_H) (l0 : Int) : Prop := (∀ g : Nat, 1 ≤ g → g < t → z ρ 51 g = 0) ∧ (∀ b : Nat, b < 8192 → z ρ 57 b = 0) ∧ z ρ 50 8 = l0
theorem sm_at {w : Nat → Int} : ∀ (n : Nat) (x : Int), 0 ≤ x → x < sm w n → ∃ i b : Nat, i < n ∧ (b : Int) < w i ∧ x = sm w i + (b : Int)
  | 0, x, h, h2 => absurd h2 (by show ¬ x < 0; omega)
  | n + 1, x, h, h2 => by
    by_cases c : x < sm w n
    · obtain ⟨i, b, a1, a2, a3⟩ := sm_at n x h c
      exact ⟨i, b, by omega, a2, a3⟩
    · have h3 : x < sm w n + w n := h2
      exact ⟨n, (x - sm w n).toNat, by omega, by omega, by omega⟩
theorem LFq_HI {t p : Nat} {ρ : q_H} {l0 : Int} (h : LFq t ρ l0) (hi : INP p ρ t) (he : (t : Int) = 1 + sm (z ρ (p + 1)) (z ρ p 0).toNat) (hn : z ρ p 0 ≤ 12) (hw : ∀ i : Nat, (i : Int) < z ρ p 0 → z ρ (p + 1) i ≤ 8) : HI t ρ := by
  obtain ⟨h1, h2, -⟩ := h
  refine ⟨fun g a b c => absurd (h1 g a b) c, fun b hb g a1 a2 a3 => ?_, fun g g' a1 a2 a3 a4 a5 => absurd (h1 g a1 a2) a5, fun g a1 a2 _ => ?_⟩
  · rw [h2 b hb] at a1
    exact absurd (h1 g (by omega) a2) a3
  · obtain ⟨i, b, i1, i2, i3⟩ := sm_at (w := z ρ (p + 1)) (z ρ p 0).toNat ((g : Int) - 1) (by omega) (by omega)
    have := hw i (by omega)
    refine ⟨8 * i + b, by omega, ?_⟩
    rw [hi.2.1 i b (by omega) i2]
    omega
section ErP
variable {ω : q_W} {d p fm s : Nat} {R : Prop} {σ σ0 : q_H}
theorem k_leaf {K : Int → q_H → Prop} (hE : q_E σ) (hc : CI s σ) (hs0 : s < 10240) (kk : ∀ τ, CE s (s + 1) σ τ → z τ 51 s = 0 → z τ 57 = z σ 57 → z τ 50 8 = z σ 50 8 → K (2 * (s : Int)) τ) : J ω m_Ci_leaf d 0 0 0 0 0 [(0, .ref 50)] [] σ (q_ki K) := by
  obtain ⟨hs, hv⟩ := hc
  have h1 := hv.1
  refine b_Ci_leaf_0 hE ?_
  rw [hs, Int.toNat_natCast]
  refine ⟨fun c => ⟨⟨by omega, by omega⟩, _, ⟨by omega, by omega⟩, rfl, ?_⟩, fun c => absurd c (by omega)⟩
  refine kk _ ⟨fr_s (fr_s fr_refl (by simp)) (by simp), ⟨?_, ?_⟩, by omega, fun g hg => ⟨?_, ?_, ?_, ?_⟩⟩ ?_ ?_ ?_
  · rw [z_s ⟨by omega, by omega⟩]; omega
  · rw [z_oF (by decide), z_up ⟨by decide, by decide⟩, z_oF (by decide), z_oF (by decide), z_oF (by decide), z_oF (by decide), z_oF (by decide), z_oF (by decide), z_oF (by decide), z_oF (by decide), z_oF (by decide), z_oF (by decide), z_oF (by decide), z_oF (by decide)]
    exact CIv_leaf hv (by omega)
  · rw [z_o (by decide), z_k (by omega)]
  · rw [z_o (by decide), z_o (by decide)]
  · rw [z_o (by decide), z_o (by decide)]
  · rw [z_o (by decide), z_o (by decide)]
  · rw [z_o (by decide), z_s ⟨by decide, by decide⟩]
  · rw [z_oF (by decide), z_oF (by decide)]
  · rw [z_k (by decide), z_o (by decide)]
/-- up to bit b of INPUT i -/
def IVq (p : Nat) (w : Nat → Int) (l0 : Int) (σ0 ρ : q_H) (t i b : Nat) : Prop :=
  q_E ρ ∧ q_r ρ 48 1 = p ∧ GP p ρ ∧ CI t ρ ∧ fr SEi σ0 ρ ∧ z ρ (p + 1) = w ∧ (t : Int) = 1 + sm w i + (b : Int) ∧
  (∀ i' b' : Nat, i' < 12 → b' < 8 → ((i' < i ∧ (b' : Int) < w i') ∨ (i' = i ∧ b' < b)) → z ρ 61 (8 * i' + b') = 2 * (1 + sm w i' + (b' : Int))) ∧
  (∀ i' b' : Nat, i' < 12 → b' < 8 → ¬ ((i' < i ∧ (b' : Int) < w i') ∨ (i' = i ∧ b' < b)) → z ρ 61 (8 * i' + b') = 1) ∧ LFq t ρ l0
theorem k_inputs {K : q_H → Prop} (hd : 1 ≤ d) (hp : p = 16 ∨ p = 29) (hE : q_E σ) (r1 : q_r σ 48 1 = p) (gp : GP p σ) (hc : CI 1 σ) (f : fr SEi σ0 σ) {l0 : Int} (hq : LFq 1 σ l0) (kk : ∀ τ s', q_E τ → q_r τ 48 1 = p → GP p τ → CI s' τ → fr SEi σ0 τ → INP p τ s' → LFq s' τ l0 → (s' : Int) = 1 + sm (z τ (p + 1)) (z τ p 0).toNat → K τ) : J ω m_En_makeInputs d 0 0 0 0 0 [(0, .ref 48)] [] σ (q_kv K) := by
  obtain ⟨d, rfl⟩ : ∃ k, d = k + 1 := ⟨d - 1, by omega⟩
  generalize hw : z σ (p + 1) = w
  generalize hn : z σ p 0 = n
  have I : ∀ ρ t i, IVq p w l0 σ0 ρ t i 0 → z ρ p 0 = n → n ≤ (i : Int) → i ≤ 12 → (i : Int) ≤ n → q_kv K (.inl none) ρ := fun ρ t i h h0 hni h12 hin => by
    obtain ⟨a1, a2, a3, a4, a5, a6, a7, a8, a9, a10⟩ := h
    have w3 := a3.1.2.2.1
    have lw := a4.2.1
    have nn : ∀ i', i' < i → 0 ≤ w i' := fun i' h => by have := w3 i' (by omega); rw [a6] at this; omega
    have A : ∀ i' b' : Nat, (i' : Int) < n → (b' : Int) < w i' → z ρ 61 (8 * i' + b') = 2 * (1 + sm w i' + (b' : Int)) := fun i' b' h1 h2 => by
      have := w3 i' (by omega)
      rw [a6] at this
      exact a8 i' b' (by omega) (by omega) (Or.inl ⟨by omega, h2⟩)
    have B : ∀ i' b' : Nat, i' < 12 → b' < 8 → ¬ ((i' : Int) < n ∧ (b' : Int) < w i') → z ρ 61 (8 * i' + b') = 1 := fun i' b' h1 h2 h3 => a9 i' b' h1 h2 (by omega)
    refine ⟨rfl, kk ρ t a1 a2 a3 a4 a5 ⟨fun j hj => ?_, by rw [h0, a6]; exact A, by rw [h0, a6]; exact B⟩ a10 (by rw [h0, a6, show n.toNat = i by omega, a7]; omega)⟩
    have ej : j = 8 * (j / 8) + j % 8 := by omega
    rw [ej]
    by_cases c : ((j / 8 : Nat) : Int) < n ∧ ((j % 8 : Nat) : Int) < w (j / 8)
    · rw [A _ _ c.1 c.2]
      have g1 := sm_le (f := w) (n := i) nn (i - (j / 8 + 1)) (j / 8 + 1) (by omega)
      rw [show j / 8 + 1 + (i - (j / 8 + 1)) = i by omega] at g1
      have g2 : sm w (j / 8 + 1) = sm w (j / 8) + w (j / 8) := rfl
      have g3 := sm_le (f := w) (n := i) nn (j / 8) 0 (by omega)
      rw [Nat.zero_add] at g3
      have g4 : sm w 0 = 0 := rfl
      exact ⟨by omega, by omega⟩
    · rw [B _ _ (by omega) (by omega) c]; exact ⟨by decide, by omega⟩
  have l : ∀ (m i : Nat) (ρ : q_H) (t : Nat), 12 ≤ i + m → i ≤ 12 → (i : Int) ≤ n → z ρ p 0 = n → IVq p w l0 σ0 ρ t i 0 → J ω m_En_makeInputs (d + 1) 0 0 0 0 10 [(0, .ref 48), (1, .int (zI (i : Int)))] [] ρ (q_kv K) := by
    intro m
    induction m with
    | zero =>
      intro i ρ t hi h12 hin h0 h
      have w1 := h.2.2.1.1.1
      refine b_En_makeInputs_10 hp h.2.1 h.1 ?_
      exact ⟨⟨by omega, by omega⟩, fun c => I ρ t i h h0 (by omega) h12 hin, fun c => absurd c (by omega)⟩
    | succ m ih =>
      intro i ρ t hi h12 hin h0 h
      have w1 := h.2.2.1.1.1
      have l2 : ∀ (k b : Nat) (ρ : q_H) (t : Nat), 8 ≤ b + k → (b : Int) ≤ w i → i < 12 → (i : Int) < n → z ρ p 0 = n → IVq p w l0 σ0 ρ t i b → J ω m_En_makeInputs (d + 1) 0 0 0 0 23 [(0, .ref 48), (1, .int (zI (i : Int))), (2, .int (zI (b : Int)))] [] ρ (q_kv K) := by
        intro k
        have out : ∀ (b : Nat) (ρ : q_H) (t : Nat), (b : Int) ≤ w i → w i ≤ (b : Int) → i < 12 → (i : Int) < n → z ρ p 0 = n → IVq p w l0 σ0 ρ t i b → J ω m_En_makeInputs (d + 1) 0 0 0 0 10 [(0, .ref 48), (1, .int (zI ((i : Int) + 1)))] [] ρ (q_kv K) := fun b ρ t hb1 hb2 hi12 hi0 h0 h => by
          obtain ⟨a1, a2, a3, a4, a5, a6, a7, a8, a9, a10⟩ := h
          rw [show (i : Int) + 1 = ((i + 1 : Nat) : Int) by omega]
          refine ih (i + 1) ρ t (by omega) (by omega) (by omega) h0 ⟨a1, a2, a3, a4, a5, a6, ?_, fun i' b' g1 g2 g3 => a8 i' b' g1 g2 ?_, fun i' b' g1 g2 g3 => a9 i' b' g1 g2 ?_, a10⟩
          · show (t : Int) = 1 + (sm w i + w i) + 0
            omega
          · rcases g3 with ⟨q1, q2⟩ | ⟨q1, q2⟩
            · by_cases e : i' = i
              · subst e; exact Or.inr ⟨rfl, by omega⟩
              · exact Or.inl ⟨by omega, q2⟩
            · omega
          · intro q
            apply g3
            rcases q with ⟨q1, q2⟩ | ⟨q1, q2⟩
            · exact Or.inl ⟨by omega, q2⟩
            · subst q1; exact Or.inl ⟨by omega, by omega⟩
        induction k with
        | zero =>
          intro b ρ t hb hbw hi12 hi0 h0 h
          have w2 := h.2.2.1.1.2.2.1 i (by omega)
          rw [h.2.2.2.2.2.1] at w2
          refine b_En_makeInputs_23 hp h.2.1 h.1 ?_
          rw [Int.toNat_natCast, h.2.2.2.2.2.1]
          exact ⟨⟨by omega, by omega⟩, ⟨by omega, by omega⟩, fun _ => out b ρ t hbw (by omega) hi12 hi0 h0 h, fun c => absurd c (by omega)⟩
        | succ k ih2 =>
          intro b ρ t hb hbw hi12 hi0 h0 h
          have w2 := h.2.2.1.1.2.2.1 i (by omega)
          rw [h.2.2.2.2.2.1] at w2
          refine b_En_makeInputs_23 hp h.2.1 h.1 ?_
          rw [Int.toNat_natCast, h.2.2.2.2.2.1]
          refine ⟨⟨by omega, by omega⟩, ⟨by omega, by omega⟩, fun c => out b ρ t hbw (by omega) hi12 hi0 h0 h, fun c => ?_⟩
          obtain ⟨a1, a2, a3, a4, a5, a6, a7, a8, a9, a10⟩ := id h
          have ht12 : t < 10240 := by
            obtain ⟨-, ⟨b1, b2, b3⟩, -⟩ := id a3
            rw [a6, h0] at b3
            have nn : ∀ i', i' < n.toNat → 0 ≤ w i' := fun i' h => by have := w1; have := a3.1.2.2.1 i' (by omega); rw [a6] at this; omega
            have g1 := sm_le (f := w) (n := n.toNat) nn (n.toNat - (i + 1)) (i + 1) (by omega)
            rw [show i + 1 + (n.toNat - (i + 1)) = n.toNat by omega] at g1
            have g2 : sm w (i + 1) = sm w i + w i := rfl
            omega
          refine k_leaf a1 a4 ht12 (fun τ ht q51 q57 q58 => b_En_makeInputs_56 hp (by rw [fr_r ht.1]; exact a2) (fr_E ht.1 a1) ⟨⟨by omega, by omega⟩, ?_⟩)
          have o : ∀ a, a ∉ [50, 51, 52, 53, 54, 55, 56, 57] → z τ a = z ρ a := fun a h => fr_zF ht.1 h
          rw [show ((i : Int) * 8 + (b : Int)).toNat = 8 * i + b by omega, show (b : Int) + 1 = ((b + 1 : Nat) : Int) by omega]
          have u : ∀ a, a ≠ 61 → z (zs τ 61 (8 * i + b) (2 * (t : Int))) a = z τ a := fun a h => z_oF h
          have i61 : ∀ j, z (zs τ 61 (8 * i + b) (2 * (t : Int))) 61 j = if j = 8 * i + b then 2 * (t : Int) else z ρ 61 j := fun j => by
            rw [z_if ⟨by omega, by omega⟩, o 61 (by decide)]; simp
          refine ih2 (b + 1) _ (t + 1) (by omega) (by omega) hi12 hi0 (by rw [u p (by omega), o p (by simp; omega)]; exact h0) ⟨zs_E (fr_E ht.1 a1), by rw [zs_r, fr_r ht.1]; exact a2, GP_cong a3 (fun a _ _ => by rw [u a (by omega), o a (by simp; omega)]), ⟨?_, ?_⟩, fr_s (fr_trans a5 (fr_mono ht.1 (by unfold SEi SEn; simp))) (by unfold SEi; simp), by rw [u (p + 1) (by omega), o (p + 1) (by simp; omega)]; exact a6, by omega, fun i' b' g1 g2 g3 => ?_, fun i' b' g1 g2 g3 => ?_, ⟨fun g g1 g2 => ?_, fun b g1 => ?_, ?_⟩⟩
          · rw [u 50 (by decide)]; exact ht.2.1.1
          · rw [u 51 (by decide), u 52 (by decide), u 53 (by decide), u 54 (by decide), u 55 (by decide), u 56 (by decide), u 57 (by decide)]; exact ht.2.1.2
          · rw [i61]
            by_cases e : 8 * i' + b' = 8 * i + b
            · rw [if_pos e]
              have e1 : i' = i := by omega
              have e2 : b' = b := by omega
              subst e1 e2
              omega
            · rw [if_neg e]
              refine a8 i' b' g1 g2 ?_
              rcases g3 with q | ⟨q1, q2⟩
              · exact Or.inl q
              · exact Or.inr ⟨q1, by omega⟩
          · rw [i61, if_neg (fun e => g3 (Or.inr ⟨by omega, by omega⟩))]
            refine a9 i' b' g1 g2 (fun q => g3 ?_)
            rcases q with q | ⟨q1, q2⟩
            · exact Or.inl q
            · exact Or.inr ⟨q1, by omega⟩
          · rw [u 51 (by decide)]
            by_cases e : g = t
            · rw [e]; exact q51
            · rw [(ht.2.2.2 g (by omega)).1]; exact a10.1 g g1 (by omega)
          · rw [u 57 (by decide), q57]; exact a10.2.1 b g1
          · rw [u 50 (by decide), q58]; exact a10.2.2
      exact b_En_makeInputs_10 hp h.2.1 h.1 ⟨⟨by omega, by omega⟩, fun c => I ρ t i h h0 (by omega) h12 hin, fun c => l2 8 0 ρ t (by decide) (by have := h.2.2.1.1.2.2.1 i (by omega); rw [h.2.2.2.2.2.1] at this; omega) (by omega) (by omega) h0 h⟩
  have e : ∀ a, a ≠ 61 → z (zfl σ 61 96 1) a = z σ a := fun a ha => funext fun j => z_fl_o ha
  have w1 := gp.1.1
  refine b_En_makeInputs_0 hp r1 hE (l 12 0 _ 1 (by decide) (by decide) (by omega) (by rw [e p (by omega)]; exact hn) ⟨zfl_E hE, r1, GP_cong gp (fun a _ _ => e a (by omega)), ⟨?_, ?_⟩, fr_f f (by unfold SEi; simp), by rw [e (p + 1) (by omega)]; exact hw, rfl, fun i' b' _ _ q => ?_, fun i' b' g1 g2 _ => ?_, ⟨fun g g1 g2 => absurd g1 (by omega), fun b g1 => by rw [e 57 (by decide)]; exact hq.2.1 b g1, by rw [e 50 (by decide)]; exact hq.2.2⟩⟩)
  · rw [e 50 (by decide)]; exact hc.1
  · rw [e 51 (by decide), e 52 (by decide), e 53 (by decide), e 54 (by decide), e 55 (by decide), e 56 (by decide), e 57 (by decide)]; exact hc.2
  · omega
  · exact z_fl ⟨by decide, by decide⟩ (by omega)
end ErP
