/-! THE ENCODER's steps: ways that part and meet -/
section YzP
variable {ω : q_W} {d p fm s : Nat} {R : Prop} {σ σ0 : q_H}
theorem NX_cp64 (hp : p = 16 ∨ p = 29) (h : NX p fm R σ0 σ s) : NX p fm R σ0 (zcp σ 62 0 64 (96 * fm) 96) s := by
  obtain ⟨⟨hE, r1⟩, gp, hc, a1, a2, a3, a4, a5, a6, a7, a8, f⟩ := id h
  have e : ∀ a, a ≠ 64 → z (zcp σ 62 0 64 (96 * fm) 96) a = z σ a := fun a ha => funext fun j => z_cp_o ha
  refine ⟨⟨zcp_E hE, r1⟩, GP_cong gp (fun o _ _ => e o (by omega)), ⟨?_, ?_⟩, ?_, ?_, ?_, ?_, fun j hj => ?_, ?_, ?_, ?_, fr_c f (by unfold SEn; simp)⟩
  · rw [e 50 (by decide)]; exact hc.1
  · rw [e 51 (by decide), e 52 (by decide), e 53 (by decide), e 54 (by decide), e 55 (by decide), e 56 (by decide), e 57 (by decide)]; exact hc.2
  · rw [e 61 (by decide), e 62 (by decide)]; exact a1
  · rw [e 63 (by decide)]; exact a2
  · rw [e 48 (by decide)]; exact a3
  · rw [e 48 (by decide)]; exact a4
  · rw [z_cp_out (by omega)]; exact a5 j hj
  · rw [e 65 (by decide), e 66 (by decide), e 67 (by decide)]; exact a6
  · rw [e 48 (by decide)]; exact a7
  · rw [e 58 (by decide)]; exact a8
theorem yy_fork {K : q_H → Prop} {x1 : Int} (hd : 2 ≤ d) (hp : p = 16 ∨ p = 29) (h : NX p fm R σ0 σ s) (hH : HI s σ) (hf : fm ≤ 31) (h1 : lit s x1) (hs10 : s + 1 < 10240)
    (kk : ∀ τ s', NX p (fm + 1) R σ0 τ s' → ME s s' σ τ → s' ≤ s + 2 → (∀ o, 58 ≤ o → o ≠ 64 → o ≠ 65 → o ≠ 66 → o ≠ 67 → z τ o = z σ o) → (∀ j, j ≠ 4 → j ≠ 12 → j ≠ 15 → z τ 48 j = z σ 48 j) → z τ 48 15 = 0 → (∀ j, j < 96 * fm → z τ 64 j = z σ 64 j) → (∀ j, j < 96 → z τ 64 (96 * fm + j) = z σ 62 j) → (∀ j, j ≠ fm → z τ 65 j = z σ 65 j ∧ z τ 66 j = z σ 66 j ∧ z τ 67 j = z σ 67 j) → z τ 66 fm = z σ 48 4 → z τ 67 fm = x1 → RA s' τ (z σ 48 4) (zXor x1 1) (z τ 65 fm) → RA s' τ (z σ 48 4) x1 (z τ 48 4) → K τ) : J ω m_En_fork d 0 0 0 0 0 [(0, .ref 48), (1, .int (zI x1))] [] σ (q_kv K) := by
  obtain ⟨d, rfl⟩ : ∃ k, d = k + 1 := ⟨d - 1, by omega⟩
  obtain ⟨⟨hE, r1⟩, gp, hc, a1, a2, a3, a4, a5, a6, a7, a8, f⟩ := id h
  refine b_En_fork_0 hp r1 hE ?_
  rw [a4.1, show ((fm : Int) * 96).toNat = 96 * fm by omega]
  have e : ∀ a, a ≠ 64 → z (zcp σ 62 0 64 (96 * fm) 96) a = z σ a := fun a ha => funext fun j => z_cp_o ha
  have w0 := NX_cp64 hp h
  have m0 : ME s s σ (zcp σ 62 0 64 (96 * fm) 96) := ME_z (fun o q1 q2 => e o (by omega)) hH
  have s10 := NX_s h
  have lx := lit_x s10.2 h1
  refine ⟨⟨by omega, by omega, by omega, by omega, by omega⟩, k_and (by omega) w0.1.1 w0.2.2.1 m0.1 (by omega) a3 lx.1 (fun v τ t g1 bd1 hv RA1 _ => ?_)⟩
  have ht := NX_CE hp w0 g1.1
  have le1 := g1.1.2.2.1
  have o1 : ∀ a, a = 48 ∨ 58 ≤ a → z τ a = z (zcp σ 62 0 64 (96 * fm) 96) a := fun a ha => fr_zF g1.1.1 (by simp; omega)
  have t12 := ht.2.2.2.2.2.2.1.1
  have t4 := ht.2.2.2.2.2.1
  have G4 : z τ 48 4 = z σ 48 4 := by rw [o1 48 (Or.inl rfl), e 48 (by decide)]
  refine b_En_fork_46 hp ht.1.2 ht.1.1 ?_
  rw [t12, Int.toNat_natCast]
  have w1 := NX_w (o := 65) (k := fm) (e := v) hp ht (Or.inr (by decide)) (fun c => absurd c (by decide)) (fun _ => hv) (fun c => absurd c (by decide))
  have w2 := NX_w (o := 66) (k := fm) (e := z τ 48 4) hp w1 (Or.inr (by decide)) (fun c => absurd c (by decide)) (fun _ => t4) (fun c => absurd c (by decide))
  have w3 := NX_w (o := 67) (k := fm) (e := x1) hp w2 (Or.inr (by decide)) (fun c => absurd c (by decide)) (fun _ => lit_m h1 le1) (fun c => absurd c (by decide))
  have hR := (NX_s ht).2
  have q65 : z (zs (zs (zs τ 65 fm v) 66 fm (z τ 48 4)) 67 fm x1) 65 fm = v := by rw [z_o (by decide), z_o (by decide), z_s (lit_R hR hv)]
  have q66 : z (zs (zs (zs τ 65 fm v) 66 fm (z τ 48 4)) 67 fm x1) 66 fm = z τ 48 4 := by rw [z_o (by decide), z_s (z_R _ _ _)]
  have q67 : z (zs (zs (zs τ 65 fm v) 66 fm (z τ 48 4)) 67 fm x1) 67 fm = x1 := z_s (lit_R s10.2 h1)
  have qo : ∀ a, a ≠ 65 → a ≠ 66 → a ≠ 67 → z (zs (zs (zs τ 65 fm v) 66 fm (z τ 48 4)) 67 fm x1) a = z τ a := fun a c1 c2 c3 => by rw [z_oF c3, z_oF c2, z_oF c1]
  have m3 : ME t t τ (zs (zs (zs τ 65 fm v) 66 fm (z τ 48 4)) 67 fm x1) := ME_z (fun o q1 q2 => qo o (by omega) (by omega) (by omega)) g1.2.1
  have m03 := ME_tr (ME_tr m0 (ME_CX g1)) m3
  refine ⟨⟨by omega, by omega⟩, ⟨by omega, by omega⟩, k_and (by omega) w3.1.1 w3.2.2.1 m3.1 (by omega) t4 (lit_m h1 le1) (fun v2 τ2 t2 g2 bd2 hv2 RA2 _ => b_En_fork_86 hp (by rw [fr_r g2.1.1]; exact w3.1.2) (fr_E g2.1.1 w3.1.1) ⟨rfl, ?_⟩)⟩
  have ht2 := NX_CE hp w3 g2.1
  have le2 := g2.1.2.2.1
  have o2 : ∀ a, a = 48 ∨ 58 ≤ a → z τ2 a = z (zs (zs (zs τ 65 fm v) 66 fm (z τ 48 4)) 67 fm x1) a := fun a ha => fr_zF g2.1.1 (by simp; omega)
  obtain ⟨⟨bE, br⟩, bgp, bc, b1, b2, b3, b4, b5, b6, b7, b8, bf⟩ := id ht2
  rw [b4.1]
  have u : ∀ a, a ≠ 48 → z (zs (zs (zs τ2 48 4 v2) 48 12 ((fm : Int) + 1)) 48 15 0) a = z τ2 a := fun a h => by rw [z_oF h, z_oF h, z_oF h]
  have m5 : ME t2 t2 τ2 (zs (zs (zs τ2 48 4 v2) 48 12 ((fm : Int) + 1)) 48 15 0) := ME_z (fun o q1 q2 => u o (by omega)) g2.2.1
  have mm := ME_tr (ME_tr m03 (ME_CX g2)) m5
  have n64 : ∀ j, j < 96 * fm → z τ2 64 j = z σ 64 j := fun j hj => by rw [o2 64 (by decide), qo 64 (by decide) (by decide) (by decide), o1 64 (by decide), z_cp_out (by omega)]
  have f64 : ∀ j, j < 96 → z τ2 64 (96 * fm + j) = z σ 62 j := fun j hj => by rw [o2 64 (by decide), qo 64 (by decide) (by decide) (by decide), o1 64 (by decide), z_cp_in (by omega), Nat.zero_add, show 96 * fm + j - 96 * fm = j by omega]
  have nx : NX p (fm + 1) R σ0 (zs (zs (zs τ2 48 4 v2) 48 12 ((fm : Int) + 1)) 48 15 0) t2 := by
    refine ⟨⟨zs_E (zs_E (zs_E bE)), br⟩, GP_cong bgp (fun o _ _ => u o (by omega)), ⟨?_, ?_⟩, ?_, ?_, ?_, ⟨?_, by omega⟩, ?_, ?_, ?_, ?_, fr_s (fr_s (fr_s bf (by unfold SEn; simp)) (by unfold SEn; simp)) (by unfold SEn; simp)⟩
    · rw [u 50 (by decide)]; exact bc.1
    · rw [u 51 (by decide), u 52 (by decide), u 53 (by decide), u 54 (by decide), u 55 (by decide), u 56 (by decide), u 57 (by decide)]; exact bc.2
    · rw [u 61 (by decide), u 62 (by decide)]; exact b1
    · rw [u 63 (by decide)]; exact b2
    · rw [z_k (by decide), z_k (by decide), z_s (lit_R (NX_s ht2).2 hv2)]; exact hv2
    · rw [z_k (by decide), z_s ⟨by omega, by omega⟩]; omega
    · intro j hj
      rw [u 64 (by decide)]
      by_cases c : j < 96 * fm
      · rw [n64 j c]; exact lit_m (a5 j c) (by omega)
      · have := f64 (j - 96 * fm) (by omega)
        rw [show 96 * fm + (j - 96 * fm) = j by omega] at this
        rw [this]; exact lit_m (a1 _ (by omega)).2 (by omega)
    · intro j hj
      rw [u 65 (by decide), u 66 (by decide), u 67 (by decide)]
      by_cases c : j = fm
      · subst c
        rw [o2 65 (by decide), o2 66 (by decide), o2 67 (by decide), q65, q66, q67]
        exact ⟨lit_m hv le2, lit_m t4 le2, lit_m h1 (by omega)⟩
      · exact b6 j (by omega)
    · rw [z_s ⟨by decide, by decide⟩]; decide
    · rw [u 58 (by decide)]; exact b8
  have e65 : ∀ j, z (zs (zs (zs τ2 48 4 v2) 48 12 ((fm : Int) + 1)) 48 15 0) 65 j = z (zs (zs (zs τ 65 fm v) 66 fm (z τ 48 4)) 67 fm x1) 65 j := fun j => by rw [u 65 (by decide), o2 65 (by decide)]
  have e66 : ∀ j, z (zs (zs (zs τ2 48 4 v2) 48 12 ((fm : Int) + 1)) 48 15 0) 66 j = z (zs (zs (zs τ 65 fm v) 66 fm (z τ 48 4)) 67 fm x1) 66 j := fun j => by rw [u 66 (by decide), o2 66 (by decide)]
  have e67 : ∀ j, z (zs (zs (zs τ2 48 4 v2) 48 12 ((fm : Int) + 1)) 48 15 0) 67 j = z (zs (zs (zs τ 65 fm v) 66 fm (z τ 48 4)) 67 fm x1) 67 j := fun j => by rw [u 67 (by decide), o2 67 (by decide)]
  refine kk _ t2 nx mm (by omega) (fun o q1 q2 q3 q4 q5 => ?_) (fun j q1 q2 q3 => ?_) (z_s ⟨by decide, by decide⟩) (fun j hj => ?_) (fun j hj => ?_) (fun j hj => ⟨?_, ?_, ?_⟩) ?_ ?_ ?_ ?_
  · rw [u o (by omega), o2 o (Or.inr q1), qo o q3 q4 q5, o1 o (Or.inr q1), e o q2]
  · rw [z_k q3, z_k q2, z_k q1, o2 48 (Or.inl rfl), qo 48 (by decide) (by decide) (by decide), o1 48 (Or.inl rfl), e 48 (by decide)]
  · rw [u 64 (by decide), n64 j hj]
  · rw [u 64 (by decide), f64 j hj]
  · rw [e65, z_o (by decide), z_o (by decide), z_k hj, o1 65 (by decide), e 65 (by decide)]
  · rw [e66, z_o (by decide), z_k hj, z_o (by decide), o1 66 (by decide), e 66 (by decide)]
  · rw [e67, z_k hj, z_o (by decide), z_o (by decide), o1 67 (by decide), e 67 (by decide)]
  · rw [e66, q66, G4]
  · rw [e67, q67]
  · rw [e65, q65]
    exact RA_GM (RA_GM (RA_GM RA1 m3.2.2) (ME_CX g2).2.2) m5.2.2
  · rw [z_k (by decide), z_k (by decide), z_s (lit_R (NX_s ht2).2 hv2), ← G4]
    exact RA_GM RA2 m5.2.2
theorem y_swap {K : q_H → Prop} (hp : p = 16 ∨ p = 29) (h : NX p (fm + 1) R σ0 σ s) (hH : HI s σ)
    (kk : ∀ τ, NX p (fm + 1) R σ0 τ s → ME s s σ τ → (∀ o, 58 ≤ o → o ≠ 62 → o ≠ 64 → o ≠ 65 → o ≠ 67 → z τ o = z σ o) → (∀ j, j ≠ 4 → j ≠ 15 → z τ 48 j = z σ 48 j) → z τ 48 15 = 0 → (∀ j, j < 96 * fm → z τ 64 j = z σ 64 j) → (∀ j, j < 96 → z τ 62 j = z σ 64 (96 * fm + j) ∧ z τ 64 (96 * fm + j) = z σ 62 j) → (∀ j, j ≠ fm → z τ 65 j = z σ 65 j ∧ z τ 67 j = z σ 67 j) → z τ 48 4 = z σ 65 fm → z τ 65 fm = z σ 48 4 → z τ 67 fm = zXor (z σ 67 fm) 1 → K τ) : J ω m_En_swap d 0 0 0 0 0 [(0, .ref 48)] [] σ (q_kv K) := by
  have s10 := NX_s h
  have fin : ∀ ρ, NX p (fm + 1) R σ0 ρ s → ME s s σ ρ → (∀ o, 48 ≤ o → o ≠ 62 → o ≠ 64 → z ρ o = z σ o) → (∀ j, j < 96 * fm → z ρ 64 j = z σ 64 j) → (∀ j, j < 96 → z ρ 62 j = z σ 64 (96 * fm + j) ∧ z ρ 64 (96 * fm + j) = z σ 62 j) → (0 ≤ (fm : Int) ∧ (fm : Int) < 32) ∧ q_kv K (.inl none) (zs (zs (zs (zs ρ 65 (fm : Int).toNat (z ρ 48 4)) 48 4 (z ρ 65 (fm : Int).toNat)) 67 (fm : Int).toNat (zXor (z ρ 67 (fm : Int).toNat) 1)) 48 15 0) := by
    intro ρ hw hm ho h64 hx
    rw [Int.toNat_natCast]
    have a4 := hw.2.2.2.2.2.2.1.2
    have a6 := hw.2.2.2.2.2.2.2.2.1 fm (by omega)
    have w1 := NX_w (o := 65) (k := fm) (e := z ρ 48 4) hp hw (Or.inr (by decide)) (fun c => absurd c (by decide)) (fun _ => hw.2.2.2.2.2.1) (fun c => absurd c (by decide))
    have w2 := NX_w (o := 48) (k := 4) (e := z ρ 65 fm) hp w1 (Or.inl rfl) (fun _ => by decide) (fun _ => a6.1) (fun _ c => absurd c (by decide))
    have w3 := NX_w (o := 67) (k := fm) (e := zXor (z ρ 67 fm) 1) hp w2 (Or.inr (by decide)) (fun c => absurd c (by decide)) (fun _ => (lit_x (NX_s hw).2 a6.2.2).1) (fun c => absurd c (by decide))
    have w4 := NX_w (o := 48) (k := 15) (e := 0) hp w3 (Or.inl rfl) (fun _ => by decide) (fun c => absurd c (by decide)) (fun _ _ => by decide)
    have q : ∀ o, o ≠ 48 → o ≠ 65 → o ≠ 67 → z (zs (zs (zs (zs ρ 65 fm (z ρ 48 4)) 48 4 (z ρ 65 fm)) 67 fm (zXor (z ρ 67 fm) 1)) 48 15 0) o = z ρ o := fun o c1 c2 c3 => by rw [z_oF c1, z_oF c3, z_oF c1, z_oF c2]
    refine ⟨⟨by omega, by omega⟩, rfl, kk _ w4 (ME_tr hm (ME_z (fun o q1 q2 => q o (by omega) (by omega) (by omega)) hm.1)) (fun o q1 q2 q3 q4 q5 => ?_) (fun j q1 q2 => ?_) (z_s ⟨by decide, by decide⟩) (fun j hj => ?_) (fun j hj => ?_) (fun j hj => ⟨?_, ?_⟩) ?_ ?_ ?_⟩
    · rw [q o (by omega) q4 q5, ho o (by omega) q2 q3]
    · rw [z_k q2, z_o (by decide), z_k q1, z_o (by decide), ho 48 (by decide) (by decide) (by decide)]
    · rw [q 64 (by decide) (by decide) (by decide), h64 j hj]
    · rw [q 62 (by decide) (by decide) (by decide), q 64 (by decide) (by decide) (by decide)]; exact hx j hj
    · rw [z_o (by decide), z_o (by decide), z_o (by decide), z_k hj, ho 65 (by decide) (by decide) (by decide)]
    · rw [z_o (by decide), z_k hj, z_o (by decide), z_o (by decide), ho 67 (by decide) (by decide) (by decide)]
    · rw [z_k (by decide), z_o (by decide), z_s (z_R _ _ _), ho 65 (by decide) (by decide) (by decide)]
    · rw [z_o (by decide), z_o (by decide), z_o (by decide), z_s (z_R _ _ _), ho 48 (by decide) (by decide) (by decide)]
    · rw [z_o (by decide), z_s (lit_R (NX_s hw).2 (lit_x (NX_s hw).2 a6.2.2).1), ho 67 (by decide) (by decide) (by decide)]
  have l : ∀ (k i : Nat) (ρ : q_H), 96 ≤ i + k → i ≤ 96 → NX p (fm + 1) R σ0 ρ s → ME s s σ ρ → (∀ o, 48 ≤ o → o ≠ 62 → o ≠ 64 → z ρ o = z σ o) → (∀ j, j < 96 * fm → z ρ 64 j = z σ 64 j) → (∀ j, j < i → z ρ 62 j = z σ 64 (96 * fm + j) ∧ z ρ 64 (96 * fm + j) = z σ 62 j) → (∀ j, i ≤ j → j < 96 → z ρ 62 j = z σ 62 j ∧ z ρ 64 (96 * fm + j) = z σ 64 (96 * fm + j)) → J ω m_En_swap d 0 0 0 0 9 [(0, .ref 48), (1, .int (zI (fm : Int))), (2, .int (zI (i : Int)))] [] ρ (q_kv K) := by
    intro k
    induction k with
    | zero =>
      intro i ρ hi h96 hw hm ho h64 hx hy
      exact b_En_swap_9 hp hw.1.2 hw.1.1 ⟨⟨by omega, by omega⟩, fun _ => fin ρ hw hm ho h64 (fun j hj => hx j (by omega)), fun c => absurd c (by omega)⟩
    | succ k ih =>
      intro i ρ hi h96 hw hm ho h64 hx hy
      have a4 := hw.2.2.2.2.2.2.1.2
      refine b_En_swap_9 hp hw.1.2 hw.1.1 ⟨⟨by omega, by omega⟩, fun c => fin ρ hw hm ho h64 (fun j hj => hx j (by omega)), fun c => ?_⟩
      rw [show ((fm : Int) * 96 + (i : Int)).toNat = 96 * fm + i by omega, Int.toNat_natCast, show (i : Int) + 1 = ((i + 1 : Nat) : Int) by omega]
      have l1 := hw.2.2.2.2.2.2.2.1 (96 * fm + i) (by omega)
      have l2 := (hw.2.2.2.1 i (by omega)).2
      have w1 := NX_w (o := 64) (k := 96 * fm + i) (e := z ρ 62 i) hp hw (Or.inr (by decide)) (fun c => absurd c (by decide)) (fun _ => l2) (fun c => absurd c (by decide))
      have w2 := NX_w (o := 62) (k := i) (e := z ρ 64 (96 * fm + i)) hp w1 (Or.inr (by decide)) (fun c => absurd c (by decide)) (fun _ => l1) (fun c => absurd c (by decide))
      have hyi := hy i (Nat.le_refl _) (by omega)
      refine ⟨⟨by omega, by omega⟩, ⟨by omega, by omega⟩, ih (i + 1) _ (by omega) (by omega) w2 (ME_tr hm (ME_z (fun o q1 q2 => by rw [z_oF (by omega), z_oF (by omega)]) hm.1)) (fun o q1 q2 q3 => by rw [z_oF q2, z_oF q3, ho o q1 q2 q3]) (fun j hj => by rw [z_o (by decide), z_k (by omega), h64 j hj]) (fun j hj => ?_) (fun j q1 q2 => ?_)⟩
      · by_cases c2 : j = i
        · subst c2
          rw [z_s (z_R _ _ _), z_o (by decide), z_s (z_R _ _ _)]
          exact ⟨hyi.2, hyi.1⟩
        · rw [z_k c2, z_o (by decide), z_o (by decide), z_k (by omega)]
          exact hx j (by omega)
      · rw [z_k (by omega), z_o (by decide), z_o (by decide), z_k (by omega)]
        exact hy j (by omega) q2
  refine b_En_swap_0 hp h.1.2 h.1.1 ?_
  rw [h.2.2.2.2.2.2.1.1, show ((fm + 1 : Nat) : Int) - 1 = (fm : Int) by omega]
  exact l 96 0 σ (by decide) (by decide) h (ME_refl hH) (fun _ _ _ _ => rfl) (fun _ _ => rfl) (fun j hj => absurd hj (Nat.not_lt_zero _)) (fun _ _ _ => ⟨rfl, rfl⟩)
end YzP
