/-! Solver.propagate -/
/-- as VK, but for `done` -/
def VP (cs : List Nat) (ts ts' lv : Nat) (σ τ : q_H) : Prop :=
  fr [70, 72, 73, 78, 79, 80, 81] σ τ ∧ (∀ k, k ≠ 6 → k ≠ 7 → z τ 70 k = z σ 70 k) ∧ ts ≤ ts' ∧ (∀ i, i < ts → z τ 81 i = z σ 81 i) ∧ (∀ i, i < ts → z τ 79 (gt (z σ 81 i)) = z σ 79 (gt (z σ 81 i)) ∧ z τ 80 (gt (z σ 81 i)) = z σ 80 (gt (z σ 81 i))) ∧ (∀ i, ts ≤ i → i < ts' → z τ 79 (gt (z τ 81 i)) = (lv : Int) ∧ z τ 80 (gt (z τ 81 i)) ≠ 0) ∧ (∀ c ∈ cs, z τ 72 c = z σ 72 c ∧ ∀ x, inC (z τ 72) c x ↔ inC (z σ 72) c x)
theorem VP_refl {cs : List Nat} {ts lv : Nat} {σ : q_H} : VP cs ts ts lv σ σ := ⟨fr_refl, fun _ _ _ => rfl, Nat.le_refl _, fun _ _ => rfl, fun _ _ => ⟨rfl, rfl⟩, fun i h1 h2 => absurd h2 (by omega), fun _ _ => ⟨rfl, fun _ => Iff.rfl⟩⟩
theorem VP_step {cs : List Nat} {ts t1 t2 lv : Nat} {σ ρ τ : q_H} {e : Int} (h : VP cs ts t1 lv σ ρ) (g : VK cs t1 t2 lv ρ τ) : VP cs ts t2 lv σ (zs τ 70 7 e) := by
  obtain ⟨a, b, c, f, k, l, m⟩ := h
  obtain ⟨a', b', c', f', k', l', m'⟩ := g
  have o : ∀ x, x ≠ 70 → z (zs τ 70 7 e) x = z τ x := fun x hx => z_oF hx
  refine ⟨fr_s (fr_trans a a') (by simp), fun q h1 h2 => by rw [z_k h2, b' q h1]; exact b q h1 h2, by omega, fun i hi => by rw [o 81 (by decide), f' i (by omega)]; exact f i hi, fun i hi => ?_, fun i h1 h2 => ?_, fun q hq => by rw [o 72 (by decide)]; exact ⟨(m' q hq).1.trans (m q hq).1, fun x => ((m' q hq).2 x).trans ((m q hq).2 x)⟩⟩
  · rw [o 79 (by decide), o 80 (by decide)]
    have := k' i (by omega)
    rw [f i hi] at this
    exact ⟨this.1.trans (k i hi).1, this.2.trans (k i hi).2⟩
  · rw [o 79 (by decide), o 80 (by decide), o 81 (by decide)]
    by_cases q : i < t1
    · have := k' i q
      rw [f' i q, this.1, this.2]; exact l i h1 q
    · exact l' i (by omega) h2
theorem TX_7 {s ts lv : Nat} {cs : List Nat} {τ : q_H} {e : Int} (h : TX s ts lv cs τ) : TX s ts lv cs (zs τ 70 7 e) := by
  obtain ⟨a, b, c, f⟩ := h
  refine ⟨by rw [z_k (by decide)]; exact a, by rw [z_k (by decide)]; exact b, c, ?_⟩
  rw [z_oF (by decide), z_oF (by decide), z_oF (by decide), z_oF (by decide), z_oF (by decide), z_oF (by decide)]; exact f
theorem CX_70 {s top : Nat} {cs : List Nat} {Ws : Nat → List Nat} {τ : q_H} {k : Nat} {e : Int} (h : CX s top cs Ws τ) : CX s top cs Ws (zs τ 70 k e) := by
  unfold CX
  rw [z_oF (by decide), z_oF (by decide), z_oF (by decide)]; exact h
section PrJ
variable {ω : q_W} {d s top ts lv : Nat} {cs : List Nat} {Ws : Nat → List Nat} {σ : q_H}
theorem s_propagate {K : Int → q_H → Prop} {dn : Nat} (hd : 2 ≤ d) (hE : q_E σ) (hs : s ≤ 10240) (hx : CX s top cs Ws σ) (hX : TX s ts lv cs σ) (h7 : z σ 70 7 = (dn : Int)) (hdn : dn ≤ ts) (hlv : ∀ i, dn ≤ i → i < ts → z σ 79 (gt (z σ 81 i)) = (lv : Int)) (hQ : WQ (z σ 72) (z σ 78) (z σ 79) (z σ 81) cs dn)
    (kk : ∀ (v : Int) (τ : q_H) (ts' dn' : Nat) (Ws' : Nat → List Nat), CX s top cs Ws' τ → TX s ts' lv cs τ → VP cs ts ts' lv σ τ → z τ 70 7 = (dn' : Int) → dn' ≤ ts' → ((v = 0 ∧ dn' = ts' ∧ WQ (z τ 72) (z τ 78) (z τ 79) (z τ 81) cs ts') ∨ (WQ (z τ 72) (z τ 78) (z τ 79) (z τ 81) cs dn ∧ dn < ts ∧ ∃ c ∈ cs, v = ((c : Nat) : Int) ∧ (∀ x, inC (z τ 72) c x → z τ 78 x.toNat = -1) ∧ ∃ x, inC (z τ 72) c x ∧ z τ 79 (gt x) = (lv : Int))) → K v τ) :
    J ω m_So_propagate d 0 0 0 0 0 [(0, .ref 70)] [] σ (q_ki K) := by
  obtain ⟨d, rfl⟩ : ∃ k, d = k + 1 := ⟨d - 1, by omega⟩
  have l : ∀ (m n t : Nat) (Wr : Nat → List Nat) (ρ : q_H), s ≤ n + m → CX s top cs Wr ρ → TX s t lv cs ρ → VP cs ts t lv σ ρ → z ρ 70 7 = (n : Int) → n ≤ t → dn ≤ n → ((dn = n ∧ t = ts) ∨ dn < ts) → WQ (z ρ 72) (z ρ 78) (z ρ 79) (z ρ 81) cs n → J ω m_So_propagate (d + 1) 0 0 0 0 2 [(0, .ref 70), (1, .int (zI 0))] [] ρ (q_ki K) := by
    intro m
    have out : ∀ (n t : Nat) (Wr : Nat → List Nat) (ρ : q_H), CX s top cs Wr ρ → TX s t lv cs ρ → VP cs ts t lv σ ρ → z ρ 70 7 = (n : Int) → n ≤ t → t ≤ n → WQ (z ρ 72) (z ρ 78) (z ρ 79) (z ρ 81) cs n → (q_ki K) (.inl (some (.int (zI 0)))) ρ := by
      intro n t Wr ρ h1 h2 h3 h4 h5 h6 h8
      have e : n = t := by omega
      subst e
      exact ⟨0, ⟨by decide, by decide⟩, rfl, kk 0 ρ n n Wr h1 h2 h3 h4 (Nat.le_refl _) (Or.inl ⟨rfl, rfl, h8⟩)⟩
    induction m with
    | zero =>
      intro n t Wr ρ hm h1 h2 h3 h4 h5 h6 h7' h8
      have hlen := TR_len h2.2.2.2
      have t6 := h2.1
      refine b_So_propagate_2 (fr_E h3.1 hE) ?_
      rw [h4, t6]
      exact ⟨⟨by decide, by decide⟩, fun c => absurd rfl c, fun _ => ⟨fun _ => out n t Wr ρ h1 h2 h3 h4 h5 (by omega) h8, fun c => absurd c (by omega)⟩⟩
    | succ m ih =>
      intro n t Wr ρ hm h1 h2 h3 h4 h5 h6 h7' h8
      have hlen := TR_len h2.2.2.2
      have t6 := h2.1
      have hT := h2.2.2.2
      refine b_So_propagate_2 (fr_E h3.1 hE) ?_
      rw [h4, t6, Int.toNat_natCast]
      refine ⟨⟨by decide, by decide⟩, fun c => absurd rfl c, fun _ => ⟨fun c => out n t Wr ρ h1 h2 h3 h4 h5 (by omega) h8, fun c => ⟨fun c2 => absurd c2 (by omega), fun _ => ⟨⟨by omega, by omega⟩, ?_⟩⟩⟩⟩
      have htn := (hT.1 n (by omega)).1
      have hng := ng_lit htn
      rw [zX_ng hs htn]
      obtain ⟨g, hg⟩ : ∃ g : Nat, ng (z ρ 81 n) = (g : Int) := ⟨(ng (z ρ 81 n)).toNat, by have := hng.1; omega⟩
      rw [hg]
      have hTn : z ρ 81 n = ng (g : Int) := by rw [← hg, ng_ng]
      have Ln : z ρ 79 (gt (g : Int)) = (lv : Int) := by
        rw [← hg, gt_ng]
        by_cases q : n < ts
        · have := (h3.2.2.2.2.1 n q).1
          rw [h3.2.2.2.1 n q, this]; exact hlv n h6 q
        · exact (h3.2.2.2.2.2.1 n (by omega) (by omega)).1
      refine s_visit (by omega) (fr_E h3.1 hE) hs h1 h2 (show n < t by omega) hTn Ln h8 (fun v τ t2 W2 g1 g2 g3 g4 => ?_)
      have g7 : z τ 70 7 = (n : Int) := by rw [g3.2.1 7 (by decide)]; exact h4
      refine b_So_propagate_42 (fr_E (fr_trans h3.1 g3.1) hE) ?_
      rw [g7]
      have w7 : z (zs τ 70 7 ((n : Int) + 1)) 70 7 = ((n + 1 : Nat) : Int) := by rw [z_s ⟨by omega, by omega⟩]; omega
      have dts : dn < ts := by
        rcases h7' with ⟨e, e2⟩ | e
        · omega
        · exact e
      rcases g4 with ⟨e, q⟩ | ⟨q, c1, m1, e, o1, o2⟩
      · rw [e]
        refine ih (n + 1) t2 W2 _ (by omega) (CX_70 g1) (TX_7 g2) (VP_step h3 g3) w7 (by have := g3.2.2.1; omega) (by omega) (Or.inr dts) ?_
        rw [z_oF (by decide), z_oF (by decide), z_oF (by decide), z_oF (by decide)]; exact q
      · have hc1 := (h1.2.2.1.1 c1 m1).1
        have hc2 := (h1.2.2.1.1 c1 m1).2.2.1
        have hc3 := (h1.2.2.1.1 c1 m1).2.1
        have htop := h1.2.1.2
        refine b_So_propagate_2 (fr_E (VP_step h3 g3 (e := (n : Int) + 1)).1 hE) ⟨by rw [e]; exact ⟨by omega, by omega⟩, fun _ => ⟨v, by rw [e]; exact ⟨by omega, by omega⟩, rfl, kk v _ t2 (n + 1) W2 (CX_70 g1) (TX_7 g2) (VP_step h3 g3) w7 (by have := g3.2.2.1; omega) (Or.inr ⟨?_, dts, c1, m1, e, ?_, (g : Int), ?_, ?_⟩)⟩, fun c0 => absurd c0 (by omega)⟩
        · rw [z_oF (by decide), z_oF (by decide), z_oF (by decide), z_oF (by decide)]
          exact fun a ha h2a e1 he i hi => q a ha h2a e1 he i (by omega)
        · rw [z_oF (by decide), z_oF (by decide)]; exact o1
        · rw [z_oF (by decide)]; exact o2
        · rw [z_oF (by decide)]
          have := (g3.2.2.2.2.1 n (by omega)).1
          rw [hTn, gt_ng] at this
          rw [this]; exact Ln
  refine b_So_propagate_0 hE ?_
  exact l s dn ts Ws σ (by omega) hx hX VP_refl h7 hdn (Nat.le_refl _) (Or.inl ⟨rfl, rfl⟩) hQ
end PrJ
