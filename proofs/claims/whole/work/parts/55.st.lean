/-! THE PARSER, safety: STATEMENTS end -/
section StP
variable {ω : q_W} {d T p h N : Nat} {σ0 σ ρ : q_H}
theorem PX_mk {h' N' : Nat} (hp : p = 16 ∨ p = 29) (hx : PX T p σ0 σ h N) (f : fr [8, 9, 10, 11, 12, 13, p, p + 5, p + 6, p + 7, p + 8, p + 9] σ ρ) (gp : ∀ k, k ≠ 7 → k ≠ 8 → k ≠ 11 → z ρ p k = z σ p k) (h7 : z ρ 8 7 = (h' : Int)) (h31 : h' ≤ 31) (h8 : z ρ 8 8 = cb (z ρ 9) h') (hN : z ρ p 11 = (N' : Int)) (hw : 0 ≤ z ρ p 8 ∧ z ρ p 8 ≤ 1501)
    (hs : SX h' N' (z σ p 17) (z ρ p 7) (z σ0 5 (z σ 2 8).toNat) (z ρ 9) (z ρ 10) (z ρ 11) (z ρ 12) (z ρ 13) (z ρ (p + 5)) (z ρ (p + 6)) (z ρ (p + 7)) (z ρ (p + 8)) (z ρ (p + 9))) : PX T p σ0 ρ h' N' := by
  obtain ⟨hb, f0, g2, gp0, -, -, -, -⟩ := hx
  have e2 : z ρ 2 = z σ 2 := fr_zF f (by simp; omega)
  refine ⟨BX_fr hb f ⟨by simp; omega, by simp; omega, by simp; omega, by simp; omega, by simp; omega, by simp; omega, by simp; omega, by simp; omega⟩ (gp 0 (by decide) (by decide) (by decide)) (gp 4 (by decide) (by decide) (by decide)) (gp 17 (by decide) (by decide) (by decide)), fr_trans f0 (fr_mono f (by unfold SSt; simp)), ?_, ?_, ⟨h7, h31, h8⟩, hN, hw, ?_⟩
  · rw [e2]; exact g2
  · intro k q1 q2 q3 q4 q5 q6; rw [gp k q1 q2 q5]; exact gp0 k q1 q2 q3 q4 q5 q6
  · rw [e2, gp 17 (by decide) (by decide) (by decide)]; exact hs
theorem y_closeBranch {K : Int → q_H → Prop} (hd : 2 ≤ d) (hp : p = 16 ∨ p = 29) (ks : KS T σ0) (hx : PX T p σ0 σ (h + 1) N) (hk : z σ 9 h = 2 ∨ z σ 9 h = 3)
    (kk : ∀ v ρ, 0 ≤ v ∧ v ≤ 1501 → q_E ρ → q_r ρ 8 0 = 2 → q_r ρ 8 1 = p → z ρ 8 7 = ((h : Int) + 1) → PX T p σ0 (zs ρ 8 7 (h : Int)) h (N + 1) → z ρ 2 8 = z σ 2 8 → z ρ p 17 = z σ p 17 → (∀ i, i < N → z ρ (p + 5) i = z σ (p + 5) i) → K v ρ) :
    J ω m_Pa_closeBranch d 0 0 0 0 0 [(0, .ref 8), (1, .int (zI (h : Int)))] [] σ (q_ki K) := by
  obtain ⟨d, rfl⟩ : ∃ k, d = k + 1 := ⟨d - 1, by omega⟩
  have hn := PX_N ks hx
  obtain ⟨⟨⟨hE, r0, r1⟩, -, ⟨w1, w2, -⟩, -, ⟨i1, i2, i3⟩⟩, -, -, -, ⟨h7, h31, h8⟩, hN, hw, hs⟩ := id hx
  have oh := hs.1 h (by omega)
  have ht := oh.2.1 (by omega)
  have eN : (z σ p 11).toNat = N := by omega
  refine b_Pa_closeBranch_0 hp r0 r1 hE ⟨⟨by omega, by omega⟩, x_addStep hp hE ⟨by omega, by omega⟩ ⟨by decide, by decide⟩ ⟨by decide, by decide⟩ (z_R _ _ _) (fun ρ f gp g11 q5 q6 q7 q8 q9 => ?_)⟩
  rw [eN] at q5 q6 q7 q8 q9
  have fE := fr_E f hE
  have o : ∀ a, a ∉ [p, p + 5, p + 6, p + 7, p + 8, p + 9] → z ρ a = z σ a := fun a h => fr_zF f h
  rw [Int.toNat_natCast]
  refine b_Pa_closeBranch_30 hp (by rw [fr_r f]; exact r0) (by rw [fr_r f]; exact r1) fE ⟨⟨by omega, by omega⟩, ⟨by omega, by omega⟩, ?_⟩
  rw [Int.toNat_natCast, o 12 (by simp; omega), o 13 (by simp; omega), gp 4 (by decide)]
  have o7 := oh.2.2.2.2.2.2
  refine x_capped (by omega) (zs_E fE) ⟨by omega, by omega⟩ (b_Pa_closeBranch_58 hp (by rw [zs_r, fr_r f]; exact r0) (by rw [zs_r, fr_r f]; exact r1) (zs_E fE) ⟨_, ⟨by omega, by omega⟩, rfl, ?_⟩)
  have a9 : z (zs ρ (p + 9) (z σ 10 h).toNat (z σ p 11)) (p + 9) = up (up (z σ (p + 9)) N 0) (z σ 10 h).toNat (N : Int) := by rw [z_up (z_R _ _ _), q9, hN]
  have oo : ∀ a, a ≠ p + 9 → z (zs ρ (p + 9) (z σ 10 h).toNat (z σ p 11)) a = z ρ a := fun a h => z_oF h
  have fr2 : fr [8, 9, 10, 11, 12, 13, p, p + 5, p + 6, p + 7, p + 8, p + 9] σ (zs ρ (p + 9) (z σ 10 h).toNat (z σ p 11)) := fr_s (fr_mono f (by simp)) (by simp)
  have r2 : q_r (zs ρ (p + 9) (z σ 10 h).toNat (z σ p 11)) = q_r ρ := rfl
  have E2 : q_E (zs ρ (p + 9) (z σ 10 h).toNat (z σ p 11)) := zs_E fE
  generalize zs ρ (p + 9) (z σ 10 h).toNat (z σ p 11) = π at *
  have p8 : z π 8 = z σ 8 := by rw [oo 8 (by omega), o 8 (by simp; omega)]
  have pp : ∀ k, k ≠ 11 → z π p k = z σ p k := fun k hk => by rw [oo p (by omega), gp k hk]
  have p9 : z π 9 = z σ 9 := by rw [oo 9 (by omega), o 9 (by simp; omega)]
  refine kk _ π ⟨by omega, by omega⟩ E2 (by rw [r2, fr_r f]; exact r0) (by rw [r2, fr_r f]; exact r1) (by rw [p8]; omega) ?_ (by rw [oo 2 (by omega), o 2 (by simp; omega)]) (pp 17 (by decide)) (fun i hi => by rw [oo (p + 5) (by omega), q5, up_n (by omega)])
  have u : ∀ a, a ≠ 8 → z (zs π 8 7 (h : Int)) a = z π a := fun a h => z_oF h
  refine PX_mk hp hx (fr_s fr2 (by simp)) (fun k _ _ k11 => by rw [u p (by omega)]; exact pp k k11) (z_s ⟨by omega, by omega⟩) (by omega) ?_ ?_ ?_ ?_
  · rw [z_k (by decide), u 9 (by decide), p8, p9, h8]
    show cb (z σ 9) h + (if z σ 9 h = 4 then 1 else 0) = _
    rw [if_neg (by omega)]; omega
  · rw [u p (by omega), oo p (by omega)]; omega
  · rw [u p (by omega), pp 8 (by decide)]; exact hw
  · rw [u p (by omega), pp 7 (by decide), u 9 (by decide), u 10 (by decide), u 11 (by decide), u 12 (by decide), u 13 (by decide), u (p + 5) (by omega), u (p + 6) (by omega), u (p + 7) (by omega), u (p + 8) (by omega), u (p + 9) (by omega), a9, p9, oo 10 (by omega), oo 11 (by omega), oo 12 (by omega), oo 13 (by omega), oo (p + 5) (by omega), oo (p + 6) (by omega), oo (p + 7) (by omega), oo (p + 8) (by omega), o 10 (by simp; omega), o 11 (by simp; omega), o 12 (by simp; omega), o 13 (by simp; omega), q5, q6, q7, q8]
    exact SX_branch hs (by omega) hk i1
theorem y_closeLoop {K : Int → q_H → Prop} (hd : 2 ≤ d) (hp : p = 16 ∨ p = 29) (ks : KS T σ0) (hx : PX T p σ0 σ (h + 1) N) (hk : z σ 9 h = 4)
    (kk : ∀ v ρ, 0 ≤ v ∧ v ≤ 1501 → q_E ρ → q_r ρ 8 0 = 2 → q_r ρ 8 1 = p → z ρ 8 7 = ((h : Int) + 1) → PX T p σ0 (zs ρ 8 7 (h : Int)) h (N + 1) → z ρ 2 8 = z σ 2 8 → z ρ p 17 = z σ p 17 → (∀ i, i < N → z ρ (p + 5) i = z σ (p + 5) i) → K v ρ) :
    J ω m_Pa_closeLoop d 0 0 0 0 0 [(0, .ref 8), (1, .int (zI (h : Int)))] [] σ (q_ki K) := by
  obtain ⟨d, rfl⟩ : ∃ k, d = k + 1 := ⟨d - 1, by omega⟩
  have hn := PX_N ks hx
  obtain ⟨⟨⟨hE, r0, r1⟩, -, ⟨w1, w2, -⟩, -, ⟨i1, i2, i3⟩⟩, -, -, -, ⟨h7, h31, h8⟩, hN, hw, hs⟩ := id hx
  have oh := hs.1 h (by omega)
  have ht := oh.2.1 (by omega)
  have eN : (z σ p 11).toNat = N := by omega
  have hcb : cb (z σ 9) (h + 1) = cb (z σ 9) h + 1 := by
    show cb (z σ 9) h + (if z σ 9 h = 4 then 1 else 0) = _
    rw [if_pos hk]
  have hcb2 := cb_bd (z σ 9) h
  refine b_Pa_closeLoop_0 hp r0 r1 hE (x_addStep hp hE ⟨by omega, by omega⟩ ⟨by decide, by decide⟩ ⟨by decide, by decide⟩ (z_R _ _ _) (fun ρ f gp g11 q5 q6 q7 q8 q9 => ?_))
  rw [eN] at q5 q6 q7 q8 q9
  have fE := fr_E f hE
  have o : ∀ a, a ∉ [p, p + 5, p + 6, p + 7, p + 8, p + 9] → z ρ a = z σ a := fun a h => fr_zF f h
  refine b_Pa_closeLoop_17 hp (by rw [fr_r f]; exact r0) (by rw [fr_r f]; exact r1) fE ?_
  rw [Int.toNat_natCast, o 10 (by simp; omega), o 11 (by simp; omega), o 12 (by simp; omega), o 13 (by simp; omega), o 8 (by simp; omega), gp 4 (by decide), eN]
  refine ⟨⟨by omega, by omega⟩, ⟨by omega, by omega⟩, ⟨by omega, by omega⟩, ?_⟩
  obtain ⟨o6, o7, o8⟩ := oh.2.2.2.2.2
  have hm : 0 ≤ z σ 11 h * (z σ 12 h + z σ 13 h + 8 * z σ p 4) ∧ z σ 11 h * (z σ 12 h + z σ 13 h + 8 * z σ p 4) ≤ 255 * 3098 := ⟨Int.mul_nonneg o6.1 (by omega), Int.mul_le_mul o6.2 (by omega) (by omega) (by decide)⟩
  refine x_capped (by omega) (zs_E (zs_E (zs_E fE))) ⟨by omega, by omega⟩ (b_Pa_closeLoop_105 hp (by rw [zs_r, zs_r, zs_r, fr_r f]; exact r0) (by rw [zs_r, zs_r, zs_r, fr_r f]; exact r1) (zs_E (zs_E (zs_E fE))) ⟨_, ⟨by omega, by omega⟩, rfl, ?_⟩)
  have a9 : z (zs (zs (zs ρ (p + 9) N (z σ 10 h)) (p + 9) (z σ 10 h).toNat (z ρ p 11)) 8 8 (z σ 8 8 - 1)) (p + 9) = up (up (up (z σ (p + 9)) N 0) N (z σ 10 h)) (z σ 10 h).toNat ((N : Int) + 1) := by
    rw [z_oF (by omega), z_up (z_R _ _ _), z_up (z_R _ _ _), q9, g11, hN]
  have oo : ∀ a, a ≠ p + 9 → a ≠ 8 → z (zs (zs (zs ρ (p + 9) N (z σ 10 h)) (p + 9) (z σ 10 h).toNat (z ρ p 11)) 8 8 (z σ 8 8 - 1)) a = z ρ a := fun a h g => by rw [z_oF g, z_oF h, z_oF h]
  have s8 : z (zs (zs (zs ρ (p + 9) N (z σ 10 h)) (p + 9) (z σ 10 h).toNat (z ρ p 11)) 8 8 (z σ 8 8 - 1)) 8 8 = z σ 8 8 - 1 := z_s ⟨by omega, by omega⟩
  have s7 : z (zs (zs (zs ρ (p + 9) N (z σ 10 h)) (p + 9) (z σ 10 h).toNat (z ρ p 11)) 8 8 (z σ 8 8 - 1)) 8 7 = z σ 8 7 := by rw [z_k (by decide), z_o (by omega), z_o (by omega), o 8 (by simp; omega)]
  have fr2 : fr [8, 9, 10, 11, 12, 13, p, p + 5, p + 6, p + 7, p + 8, p + 9] σ (zs (zs (zs ρ (p + 9) N (z σ 10 h)) (p + 9) (z σ 10 h).toNat (z ρ p 11)) 8 8 (z σ 8 8 - 1)) := fr_s (fr_s (fr_s (fr_mono f (by simp)) (by simp)) (by simp)) (by simp)
  have r2 : q_r (zs (zs (zs ρ (p + 9) N (z σ 10 h)) (p + 9) (z σ 10 h).toNat (z ρ p 11)) 8 8 (z σ 8 8 - 1)) = q_r ρ := rfl
  have E2 : q_E (zs (zs (zs ρ (p + 9) N (z σ 10 h)) (p + 9) (z σ 10 h).toNat (z ρ p 11)) 8 8 (z σ 8 8 - 1)) := zs_E (zs_E (zs_E fE))
  generalize zs (zs (zs ρ (p + 9) N (z σ 10 h)) (p + 9) (z σ 10 h).toNat (z ρ p 11)) 8 8 (z σ 8 8 - 1) = π at *
  have pp : ∀ k, k ≠ 11 → z π p k = z σ p k := fun k hk => by rw [oo p (by omega) (by omega), gp k hk]
  have p9 : z π 9 = z σ 9 := by rw [oo 9 (by omega) (by omega), o 9 (by simp; omega)]
  refine kk _ π ⟨by omega, by omega⟩ E2 (by rw [r2, fr_r f]; exact r0) (by rw [r2, fr_r f]; exact r1) (by rw [s7]; omega) ?_ (by rw [oo 2 (by omega) (by omega), o 2 (by simp; omega)]) (pp 17 (by decide)) (fun i hi => by rw [oo (p + 5) (by omega) (by omega), q5, up_n (by omega)])
  have u : ∀ a, a ≠ 8 → z (zs π 8 7 (h : Int)) a = z π a := fun a h => z_oF h
  refine PX_mk hp hx (fr_s fr2 (by simp)) (fun k _ _ k11 => by rw [u p (by omega)]; exact pp k k11) (z_s ⟨by omega, by omega⟩) (by omega) ?_ ?_ ?_ ?_
  · rw [z_k (by decide), u 9 (by decide), s8, p9, h8, hcb]; omega
  · rw [u p (by omega), oo p (by omega) (by omega)]; omega
  · rw [u p (by omega), pp 8 (by decide)]; exact hw
  · rw [u p (by omega), pp 7 (by decide), u 9 (by decide), u 10 (by decide), u 11 (by decide), u 12 (by decide), u 13 (by decide), u (p + 5) (by omega), u (p + 6) (by omega), u (p + 7) (by omega), u (p + 8) (by omega), u (p + 9) (by omega), a9, p9, oo 10 (by omega) (by omega), oo 11 (by omega) (by omega), oo 12 (by omega) (by omega), oo 13 (by omega) (by omega), oo (p + 5) (by omega) (by omega), oo (p + 6) (by omega) (by omega), oo (p + 7) (by omega) (by omega), oo (p + 8) (by omega) (by omega), o 10 (by simp; omega), o 11 (by simp; omega), o 12 (by simp; omega), o 13 (by simp; omega), q5, q6, q7, q8]
    exact SX_loop hs (by omega) hk i1
theorem y_else {K : q_H → Prop} (hd : 1 ≤ d) (hp : p = 16 ∨ p = 29) (ks : KS T σ0) (hx : PX T p σ0 σ (h + 1) N) (hk : z σ 9 h = 2) (hb : 5 * ((N : Int) + 1 + cn (z σ 9) (h + 1)) ≤ 2 * z σ0 5 (z σ 2 8).toNat)
    (kk : ∀ ρ, PX T p σ0 ρ (h + 1) (N + 1) → z ρ 2 8 = z σ 2 8 → z ρ p 17 = z σ p 17 → (∀ i, i < N → z ρ (p + 5) i = z σ (p + 5) i) → K ρ) :
    J ω m_Pa_goOnWithElse d 0 0 0 0 0 [(0, .ref 8), (1, .int (zI (h : Int)))] [] σ (q_kv K) := by
  obtain ⟨d, rfl⟩ : ∃ k, d = k + 1 := ⟨d - 1, by omega⟩
  have hn := PX_N ks hx
  obtain ⟨⟨⟨hE, r0, r1⟩, -, ⟨w1, w2, -⟩, -, ⟨i1, i2, i3⟩⟩, -, -, -, ⟨h7, h31, h8⟩, hN, hw, hs⟩ := id hx
  have oh := hs.1 h (by omega)
  have ht := oh.2.1 (by omega)
  have eN : (z σ p 11).toNat = N := by omega
  refine b_Pa_goOnWithElse_0 hp r0 r1 hE (x_addStep hp hE ⟨by omega, by omega⟩ ⟨by decide, by decide⟩ ⟨by decide, by decide⟩ (z_R _ _ _) (fun ρ f gp g11 q5 q6 q7 q8 q9 => ?_))
  rw [eN] at q5 q6 q7 q8 q9
  have fE := fr_E f hE
  have o : ∀ a, a ∉ [p, p + 5, p + 6, p + 7, p + 8, p + 9] → z ρ a = z σ a := fun a h => fr_zF f h
  refine b_Pa_goOnWithElse_16 hp (by rw [fr_r f]; exact r0) (by rw [fr_r f]; exact r1) fE ?_
  rw [Int.toNat_natCast, o 10 (by simp; omega)]
  refine ⟨⟨by omega, by omega⟩, ⟨by omega, by omega⟩, rfl, ?_⟩
  have a9 : z (zs (zs (zs ρ (p + 9) (z σ 10 h).toNat (z ρ p 11)) 10 h (z σ p 11)) 9 h 3) (p + 9) = up (up (z σ (p + 9)) N 0) (z σ 10 h).toNat ((N : Int) + 1) := by
    rw [z_oF (by omega), z_oF (by omega), z_up (z_R _ _ _), q9, g11, hN]
  have a10 : z (zs (zs (zs ρ (p + 9) (z σ 10 h).toNat (z ρ p 11)) 10 h (z σ p 11)) 9 h 3) 10 = up (z σ 10) h (N : Int) := by
    rw [z_oF (by omega), z_up (z_R _ _ _), z_oF (by omega), o 10 (by simp; omega), hN]
  have b9 : z (zs (zs (zs ρ (p + 9) (z σ 10 h).toNat (z ρ p 11)) 10 h (z σ p 11)) 9 h 3) 9 = up (z σ 9) h 3 := by
    rw [z_up ⟨by decide, by decide⟩, z_oF (by omega), z_oF (by omega), o 9 (by simp; omega)]
  have oo : ∀ a, a ≠ p + 9 → a ≠ 10 → a ≠ 9 → z (zs (zs (zs ρ (p + 9) (z σ 10 h).toNat (z ρ p 11)) 10 h (z σ p 11)) 9 h 3) a = z ρ a := fun a h g k => by rw [z_oF k, z_oF g, z_oF h]
  have fr2 : fr [8, 9, 10, 11, 12, 13, p, p + 5, p + 6, p + 7, p + 8, p + 9] σ (zs (zs (zs ρ (p + 9) (z σ 10 h).toNat (z ρ p 11)) 10 h (z σ p 11)) 9 h 3) := fr_s (fr_s (fr_s (fr_mono f (by simp)) (by simp)) (by simp)) (by simp)
  generalize zs (zs (zs ρ (p + 9) (z σ 10 h).toNat (z ρ p 11)) 10 h (z σ p 11)) 9 h 3 = π at *
  have pp : ∀ k, k ≠ 11 → z π p k = z σ p k := fun k hk => by rw [oo p (by omega) (by omega) (by omega), gp k hk]
  have p8 : z π 8 = z σ 8 := by rw [oo 8 (by omega) (by omega) (by omega), o 8 (by simp; omega)]
  refine kk π ?_ (by rw [oo 2 (by omega) (by omega) (by omega), o 2 (by simp; omega)]) (pp 17 (by decide)) (fun i hi => by rw [oo (p + 5) (by omega) (by omega) (by omega), q5, up_n (by omega)])
  refine PX_mk hp hx fr2 (fun k _ _ k11 => pp k k11) (by rw [p8]; exact h7) h31 ?_ ?_ ?_ ?_
  · rw [p8, b9, h8]
    show cb (z σ 9) h + (if z σ 9 h = 4 then 1 else 0) = cb (up (z σ 9) h 3) h + (if up (z σ 9) h 3 h = 4 then 1 else 0)
    rw [cb_up h (Nat.le_refl _), up_s, if_neg (by omega), if_neg (by decide)]
  · rw [oo p (by omega) (by omega) (by omega)]; omega
  · rw [pp 8 (by decide)]; exact hw
  · rw [pp 7 (by decide), a9, a10, b9, oo 11 (by omega) (by omega) (by omega), oo 12 (by omega) (by omega) (by omega), oo 13 (by omega) (by omega) (by omega), oo (p + 5) (by omega) (by omega) (by omega), oo (p + 6) (by omega) (by omega) (by omega), oo (p + 7) (by omega) (by omega) (by omega), oo (p + 8) (by omega) (by omega) (by omega), o 11 (by simp; omega), o 12 (by simp; omega), o 13 (by simp; omega), q5, q6, q7, q8]
    exact SX_else hs hb (Int.le_refl _) (by omega) hk i1
theorem l_Pa_finish_2 {K : q_H → Prop} (hd : 3 ≤ d) (hp : p = 16 ∨ p = 29) (ks : KS T σ0) {c0 i0 : Int} {n0 : Nat} {A0 : Nat → Int} (kk : ∀ τ h' N', PX T p σ0 τ h' N' → c0 ≤ z τ 2 8 → n0 ≤ N' ∧ (n0 = 0 → N' = 0) → z τ p 17 = i0 → (∀ i, i < n0 → z τ (p + 5) i = A0 i) → K τ) : ∀ (h N : Nat) (x2 : Int) (σ : q_H), PX T p σ0 σ h N → c0 ≤ z σ 2 8 → n0 ≤ N ∧ (n0 = 0 → N = 0) → z σ p 17 = i0 → (∀ i, i < n0 → z σ (p + 5) i = A0 i) → 0 ≤ x2 ∧ x2 ≤ 1600 → J ω m_Pa_finish (d + 1) 0 0 0 0 2 [(0, .ref 8), (2, .int (zI x2))] [] σ (q_kv K) := by
  intro h
  induction h with
  | zero =>
    intro N x2 σ hx hc hn0 hi0 hA0 h2
    obtain ⟨⟨⟨hE, r0, r1⟩, -⟩, -, -, -, ⟨h7, h31, h8⟩, hN, hw, hs⟩ := id hx
    refine b_Pa_finish_2 hp r0 r1 hE ⟨fun _ => x_capped (by omega) hE ⟨by omega, by omega⟩ (b_Pa_finish_132 hp r0 r1 hE ⟨rfl, ?_⟩), fun c => absurd c (by omega)⟩
    refine kk _ 0 N ?_ (by rw [z_o (by omega)]; exact hc) hn0 (by rw [z_k (by decide)]; exact hi0) (fun i hi => by rw [z_o (by omega)]; exact hA0 i hi)
    have u : ∀ a, a ≠ p → z (zs σ p 8 (min (z σ p 8 + x2) 1501)) a = z σ a := fun a h => z_oF h
    refine PX_mk hp hx (fr_s fr_refl (by simp)) (fun k _ k8 _ => z_k k8) (by rw [u 8 (by omega)]; exact h7) h31 (by rw [u 8 (by omega), u 9 (by omega)]; exact h8) (by rw [z_k (by decide)]; exact hN) (by rw [z_s ⟨by omega, by omega⟩]; omega) ?_
    rw [z_k (by decide), u 9 (by omega), u 10 (by omega), u 11 (by omega), u 12 (by omega), u 13 (by omega), u (p + 5) (by omega), u (p + 6) (by omega), u (p + 7) (by omega), u (p + 8) (by omega), u (p + 9) (by omega)]
    exact hs
  | succ h ih =>
    intro N x2 σ hx hc hn0 hi0 hA0 h2
    have hcc := PX_c hx
    have hn := PX_N ks hx
    obtain ⟨⟨⟨hE, r0, r1⟩, ⟨c1, c2, c3⟩, -⟩, -, -, -, ⟨h7, h31, h8⟩, hN, hw, hs⟩ := id hx
    have e7 : z σ 8 7 - 1 = (h : Int) := by omega
    have oh := hs.1 h (by omega)
    refine b_Pa_finish_2 hp r0 r1 hE ⟨fun c => absurd c (by omega), fun _ => ?_⟩
    rw [e7, Int.toNat_natCast]
    have o8 := oh.2.2.2.2.2.2.2
    refine ⟨⟨by omega, by omega⟩, x_capped (by omega) hE ⟨by omega, by omega⟩ (b_Pa_finish_32 hp r0 r1 hE ?_)⟩
    rw [Int.toNat_natCast]
    have hv : 0 ≤ min (z σ 13 h + x2) 1501 ∧ min (z σ 13 h + x2) 1501 ≤ 1501 := by omega
    generalize min (z σ 13 h + x2) 1501 = v at hv ⊢
    have u : ∀ a, a ≠ 13 → z (zs σ 13 h v) a = z σ a := fun a h => z_oF h
    have hx2 : PX T p σ0 (zs σ 13 h v) (h + 1) N := by
      refine PX_mk hp hx (fr_s fr_refl (by simp)) (fun k _ _ _ => z_o (by omega)) (by rw [u 8 (by omega)]; exact h7) h31 (by rw [u 8 (by omega), u 9 (by omega)]; exact h8) (by rw [z_o (by omega)]; exact hN) (by rw [u p (by omega)]; exact hw) ?_
      rw [u p (by omega), z_up ⟨by omega, by omega⟩, u 9 (by omega), u 10 (by omega), u 11 (by omega), u 12 (by omega), u (p + 5) (by omega), u (p + 6) (by omega), u (p + 7) (by omega), u (p + 8) (by omega), u (p + 9) (by omega)]
      exact SX_in hs hv
    have u2 : z (zs σ 13 h v) 2 8 = z σ 2 8 := by rw [u 2 (by decide)]
    have go79 : z σ 9 h ≠ 1 → J ω m_Pa_finish (d + 1) 0 0 0 0 79 [(0, .ref 8), (3, .int (zI (h : Int)))] [] (zs σ 13 h v) (q_kv K) := by
      intro h1
      obtain ⟨⟨⟨hE2, r02, r12⟩, -⟩, -⟩ := id hx2
      refine b_Pa_finish_79 hp r02 r12 hE2 ?_
      rw [Int.toNat_natCast, u 9 (by decide)]
      have nx : ∀ (v : Int) ρ, 0 ≤ v ∧ v ≤ 1501 → q_E ρ → q_r ρ 8 0 = 2 → q_r ρ 8 1 = p → z ρ 8 7 = ((h : Int) + 1) → PX T p σ0 (zs ρ 8 7 (h : Int)) h (N + 1) → z ρ 2 8 = z (zs σ 13 h v) 2 8 → z ρ p 17 = z σ p 17 → (∀ i, i < N → z ρ (p + 5) i = z σ (p + 5) i) → J ω m_Pa_finish (d + 1) 0 0 0 0 102 [(0, .ref 8)] [.int (zI v)] ρ (q_kv K) := by
        intro v ρ hv E3 r03 r13 s7 hp3 s2 s17 sA
        refine b_Pa_finish_102 hp r03 r13 E3 ?_
        rw [show z ρ 8 7 - 1 = (h : Int) by omega]
        refine ih (N + 1) v _ hp3 ?_ ⟨by omega, fun c => by have := hn0.2 c; have := oh.2.1 h1; omega⟩ (by rw [z_o (by omega), s17]; exact hi0) (fun i hi => by rw [z_o (by omega), sA i (by omega)]; exact hA0 i hi) ⟨hv.1, by omega⟩
        rw [z_o (by decide), s2, z_o (by decide)]; exact hc
      refine ⟨⟨by omega, by omega⟩, fun c4 => ?_, fun c4 => ?_⟩
      · exact y_closeBranch (by omega) hp ks hx2 (by rw [u 9 (by decide)]; have := oh.1; omega) (fun v ρ a1 a2 a3 a4 a5 a6 a7 a8 a9 => nx v ρ a1 a2 a3 a4 a5 a6 (a7.trans ((z_o (by decide)).trans (z_o (by decide)).symm)) (a8.trans (z_o (by omega))) (fun i hi => (a9 i hi).trans (z_o (by omega))))
      · exact y_closeLoop (by omega) hp ks hx2 (by rw [u 9 (by decide)]; exact c4) (fun v ρ a1 a2 a3 a4 a5 a6 a7 a8 a9 => b_Pa_finish_94 hp a3 a4 a2 (nx v ρ a1 a2 a3 a4 a5 a6 (a7.trans ((z_o (by decide)).trans (z_o (by decide)).symm)) (a8.trans (z_o (by omega))) (fun i hi => (a9 i hi).trans (z_o (by omega)))))
    refine ⟨⟨by omega, by omega⟩, ⟨by omega, by omega⟩, fun k1 => ⟨fun _ => go79 k1, fun k2 => ⟨⟨by omega, by omega⟩, fun _ => go79 k1, fun k42 => ?_⟩⟩, fun _ => ⟨rfl, kk _ (h + 1) N hx2 (by rw [u2]; exact hc) hn0 (by rw [u p (by omega)]; exact hi0) (fun i hi => by rw [u (p + 5) (by omega)]; exact hA0 i hi)⟩⟩
    refine y_adv hp ks hx2 (fun τ c e1 ht e2 e3 e4 e5 => ?_)
    have e6 := e5 (by rw [u2, u 4 (by decide), k42]; decide)
    rw [u2] at e6
    have t9 : z τ 9 = z σ 9 := by rw [e1, z_oF (by decide), u 9 (by decide)]
    obtain ⟨⟨⟨hE3, r03, r13⟩, -⟩, -⟩ := id ht
    refine b_Pa_finish_73 hp r03 r13 hE3 (y_else (by omega) hp ks ht (by rw [t9]; exact k2) ?_ (fun π hπ p2 p17 pA => ?_))
    · have k4 := (PX_4 hp hx).1
      have a := ks.1 (z σ 2 8).toNat (by omega)
      rw [← k4, k42] at a
      rw [t9, e2, show c.toNat = (z σ 2 8).toNat + 1 by omega]
      have : (kl 42 : Int) = 4 := by decide
      omega
    · obtain ⟨⟨⟨hE4, r04, r14⟩, -⟩, -⟩ := id hπ
      exact b_Pa_finish_78 hp r04 r14 hE4 ⟨rfl, kk π (h + 1) (N + 1) hπ (by omega) ⟨by omega, fun c => by have := hn0.2 c; have := oh.2.1 (by omega); omega⟩ (by rw [p17, e1, z_o (by omega), u p (by omega)]; exact hi0) (fun i hi => by rw [pA i (by omega), e1, z_o (by omega), u (p + 5) (by omega)]; exact hA0 i hi)⟩
theorem y_finish {K : q_H → Prop} {x1 : Int} (hd : 4 ≤ d) (hp : p = 16 ∨ p = 29) (ks : KS T σ0) (hx : PX T p σ0 σ h N) (h2 : 0 ≤ x1 ∧ x1 ≤ 1600) (kk : ∀ τ h' N', PX T p σ0 τ h' N' → z σ 2 8 ≤ z τ 2 8 → N ≤ N' ∧ (N = 0 → N' = 0) → z τ p 17 = z σ p 17 → (∀ i, i < N → z τ (p + 5) i = z σ (p + 5) i) → K τ) : J ω m_Pa_finish d 0 0 0 0 0 [(0, .ref 8), (1, .int (zI x1))] [] σ (q_kv K) := by
  obtain ⟨d, rfl⟩ : ∃ k, d = k + 1 := ⟨d - 1, by omega⟩
  obtain ⟨⟨⟨hE, r0, r1⟩, -⟩, -⟩ := id hx
  exact b_Pa_finish_0 hp r0 r1 hE (l_Pa_finish_2 (by omega) hp ks kk h N x1 σ hx (Int.le_refl _) ⟨Nat.le_refl _, id⟩ rfl (fun _ _ => rfl) h2)
end StP
