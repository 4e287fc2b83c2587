/-! THE CLASS READS STATEMENTS: one ends -/
/-- one is closed: what became of the heap -/
def EQ1 (p N : Nat) (σ ρ : q_H) (x : Int) (g : Nat → Int) : Prop :=
  z ρ 2 = z σ 2 ∧ (∀ k, k ≠ 11 → z ρ p k = z σ p k) ∧ z ρ 9 = z σ 9 ∧ z ρ 10 = z σ 10 ∧ z ρ 11 = z σ 11 ∧ z ρ 12 = z σ 12 ∧ z ρ 13 = z σ 13 ∧ z ρ (p + 5) = up (z σ (p + 5)) N x ∧ z ρ (p + 6) = up (z σ (p + 6)) N 0 ∧ z ρ (p + 7) = up (z σ (p + 7)) N (z σ p 17) ∧ z ρ (p + 8) = up (z σ (p + 8)) N (z σ p 17) ∧ z ρ (p + 9) = g ∧ z ρ (p + 10) = z σ (p + 10) ∧ z ρ (p + 11) = z σ (p + 11) ∧ z ρ (p + 12) = z σ (p + 12)
section AeP
variable {ω : q_W} {d T p h N : Nat} {σ0 σ ρ : q_H}
/-- the open ones are as before but for the top one's step -/
theorem AQ_close {P : Nat → Int} {t as w : Nat} {f : q_Fr} {S : List q_Fr} {st : List q_St} {ff : Option (Int × Nat)} {x g0 g1 : Int} {h' : Int} {tu : Nat} (hp : p = 16 ∨ p = 29) (hq : AQ p P (t, f :: S, st, as, w, ff) σ) (he : EQ1 p st.length σ ρ x (up (up (z σ (p + 9)) st.length g0) tu g1)) : AQ p P (t, S, stG (st ++ [(x, 0, g0, [])]) tu g1, as, w, ff) (zs ρ 8 7 h') := by
  obtain ⟨a1, a2, a3, ⟨a4, a5⟩, a6, a7, a8⟩ := hq
  obtain ⟨e2, ep, e9, e10, e11, e12, e13, e5, e6, e7, e8, e99, e110, e111, e112⟩ := he
  have u : ∀ a, a ≠ 8 → z (zs ρ 8 7 h') a = z ρ a := fun a h => z_oF h
  dsimp only at a1 a2 a3 a4 a5 a6 a7 a8
  unfold AQ
  dsimp only
  rw [u 2 (by decide), u 9 (by decide), u 10 (by decide), u 11 (by decide), u 12 (by decide), u 13 (by decide), u p (by omega), u (p + 5) (by omega), u (p + 6) (by omega), u (p + 7) (by omega), u (p + 8) (by omega), u (p + 9) (by omega), u (p + 10) (by omega), u (p + 11) (by omega), u (p + 12) (by omega), e2, e9, e10, e11, e12, e13, e5, e6, e7, e8, e99, e110, e111, e112, ep 17 (by decide), ep 7 (by decide), ep 8 (by decide), ep 9 (by decide), ep 10 (by decide), itF_G, itF_app]
  refine ⟨a1, a2.2, lsS_G0 (lsS_add a3 a4 (by rw [a4]; simp)), ⟨?_, ?_⟩, a6, a7, a8⟩
  · show _ = (((itF st ++ itF [(x, 0, g0, [])]).length : Nat) : Int)
    rw [show itF st ++ itF [(x, 0, g0, [])] = itF st from List.append_nil _]; exact a4
  · rw [show itF st ++ itF [(x, 0, g0, [])] = itF st from List.append_nil _]; exact a5
theorem w_closeBranch {K : Int → q_H → Prop} (hd : 2 ≤ d) (hp : p = 16 ∨ p = 29) (ks : KS T σ0) (hx : PX T p σ0 σ (h + 1) N) (hk : z σ 9 h = 2 ∨ z σ 9 h = 3)
    (kk : ∀ ρ, q_E ρ → q_r ρ 8 0 = 2 → q_r ρ 8 1 = p → z ρ 8 7 = ((h : Int) + 1) → PX T p σ0 (zs ρ 8 7 (h : Int)) h (N + 1) → EQ1 p N σ ρ 6 (up (up (z σ (p + 9)) N 0) (z σ 10 h).toNat (N : Int)) → K (min (z σ 12 h + z σ 13 h + 8 * z σ p 4) 1501) ρ) :
    J ω m_Pa_closeBranch d 0 0 0 0 0 [(0, .ref 8), (1, .int (zI (h : Int)))] [] σ (q_ki K) := by
  obtain ⟨d, rfl⟩ : ∃ k, d = k + 1 := ⟨d - 1, by omega⟩
  have hn := PX_N ks hx
  obtain ⟨⟨⟨hE, r0, r1⟩, -, ⟨w1, w2, -⟩, -, ⟨i1, i2, i3⟩⟩, -, -, -, ⟨h7, h31, h8⟩, hN, hw, hs⟩ := id hx
  have oh := hs.1 h (by omega)
  have ht := oh.2.1 (by omega)
  have eN : (z σ p 11).toNat = N := by omega
  refine b_Pa_closeBranch_0 hp r0 r1 hE ⟨⟨by omega, by omega⟩, x_addStep hp hE ⟨by omega, by omega⟩ ⟨by decide, by decide⟩ ⟨by decide, by decide⟩ (z_R _ _ _) (fun ρ f gp g11 q5 q6 q7 q8 q9 => ?_)⟩
  rw [eN] at q5 q6 q7 q8 q9
  have fE := fr_E f hE
  have o : ∀ a, a ∉ [p, p + 5, p + 6, p + 7, p + 8, p + 9] → z ρ a = z σ a := fun a h => fr_zF f h
  rw [Int.toNat_natCast]
  refine b_Pa_closeBranch_30 hp (by rw [fr_r f]; exact r0) (by rw [fr_r f]; exact r1) fE ⟨⟨by omega, by omega⟩, ⟨by omega, by omega⟩, ?_⟩
  rw [Int.toNat_natCast, o 12 (by simp; omega), o 13 (by simp; omega), gp 4 (by decide)]
  have o7 := oh.2.2.2.2.2.2
  refine x_capped (by omega) (zs_E fE) ⟨by omega, by omega⟩ (b_Pa_closeBranch_58 hp (by rw [zs_r, fr_r f]; exact r0) (by rw [zs_r, fr_r f]; exact r1) (zs_E fE) ⟨_, ⟨by omega, by omega⟩, rfl, ?_⟩)
  have a9 : z (zs ρ (p + 9) (z σ 10 h).toNat (z σ p 11)) (p + 9) = up (up (z σ (p + 9)) N 0) (z σ 10 h).toNat (N : Int) := by rw [z_up (z_R _ _ _), q9, hN]
  have oo : ∀ a, a ≠ p + 9 → z (zs ρ (p + 9) (z σ 10 h).toNat (z σ p 11)) a = z ρ a := fun a h => z_oF h
  have fr2 : fr [8, 9, 10, 11, 12, 13, p, p + 5, p + 6, p + 7, p + 8, p + 9] σ (zs ρ (p + 9) (z σ 10 h).toNat (z σ p 11)) := fr_s (fr_mono f (by simp)) (by simp)
  have r2 : q_r (zs ρ (p + 9) (z σ 10 h).toNat (z σ p 11)) = q_r ρ := rfl
  have E2 : q_E (zs ρ (p + 9) (z σ 10 h).toNat (z σ p 11)) := zs_E fE
  generalize zs ρ (p + 9) (z σ 10 h).toNat (z σ p 11) = π at *
  have p8 : z π 8 = z σ 8 := by rw [oo 8 (by omega), o 8 (by simp; omega)]
  have pp : ∀ k, k ≠ 11 → z π p k = z σ p k := fun k hk => by rw [oo p (by omega), gp k hk]
  have p9 : z π 9 = z σ 9 := by rw [oo 9 (by omega), o 9 (by simp; omega)]
  refine kk π E2 (by rw [r2, fr_r f]; exact r0) (by rw [r2, fr_r f]; exact r1) (by rw [p8]; omega) ?_ ⟨by rw [oo 2 (by omega), o 2 (by simp; omega)], pp, p9, by rw [oo 10 (by omega), o 10 (by simp; omega)], by rw [oo 11 (by omega), o 11 (by simp; omega)], by rw [oo 12 (by omega), o 12 (by simp; omega)], by rw [oo 13 (by omega), o 13 (by simp; omega)], by rw [oo (p + 5) (by omega), q5], by rw [oo (p + 6) (by omega), q6], by rw [oo (p + 7) (by omega), q7], by rw [oo (p + 8) (by omega), q8], a9, by rw [oo (p + 10) (by omega), o (p + 10) (by simp)], by rw [oo (p + 11) (by omega), o (p + 11) (by simp)], by rw [oo (p + 12) (by omega), o (p + 12) (by simp)]⟩
  have u : ∀ a, a ≠ 8 → z (zs π 8 7 (h : Int)) a = z π a := fun a h => z_oF h
  refine PX_mk hp hx (fr_s fr2 (by simp)) (fun k _ _ k11 => by rw [u p (by omega)]; exact pp k k11) (z_s ⟨by omega, by omega⟩) (by omega) ?_ ?_ ?_ ?_
  · rw [z_k (by decide), u 9 (by decide), p8, p9, h8]
    show cb (z σ 9) h + (if z σ 9 h = 4 then 1 else 0) = _
    rw [if_neg (by omega)]; omega
  · rw [u p (by omega), oo p (by omega)]; omega
  · rw [u p (by omega), pp 8 (by decide)]; exact hw
  · rw [u p (by omega), pp 7 (by decide), u 9 (by decide), u 10 (by decide), u 11 (by decide), u 12 (by decide), u 13 (by decide), u (p + 5) (by omega), u (p + 6) (by omega), u (p + 7) (by omega), u (p + 8) (by omega), u (p + 9) (by omega), a9, p9, oo 10 (by omega), oo 11 (by omega), oo 12 (by omega), oo 13 (by omega), oo (p + 5) (by omega), oo (p + 6) (by omega), oo (p + 7) (by omega), oo (p + 8) (by omega), o 10 (by simp; omega), o 11 (by simp; omega), o 12 (by simp; omega), o 13 (by simp; omega), q5, q6, q7, q8]
    exact SX_branch hs (by omega) hk i1
theorem w_closeLoop {K : Int → q_H → Prop} (hd : 2 ≤ d) (hp : p = 16 ∨ p = 29) (ks : KS T σ0) (hx : PX T p σ0 σ (h + 1) N) (hk : z σ 9 h = 4)
    (kk : ∀ ρ, q_E ρ → q_r ρ 8 0 = 2 → q_r ρ 8 1 = p → z ρ 8 7 = ((h : Int) + 1) → PX T p σ0 (zs ρ 8 7 (h : Int)) h (N + 1) → EQ1 p N σ ρ 9 (up (up (up (z σ (p + 9)) N 0) N (z σ 10 h)) (z σ 10 h).toNat ((N : Int) + 1)) → K (min (z σ 11 h * (z σ 12 h + z σ 13 h + 8 * z σ p 4) + z σ 12 h) 1501) ρ) :
    J ω m_Pa_closeLoop d 0 0 0 0 0 [(0, .ref 8), (1, .int (zI (h : Int)))] [] σ (q_ki K) := by
  obtain ⟨d, rfl⟩ : ∃ k, d = k + 1 := ⟨d - 1, by omega⟩
  have hn := PX_N ks hx
  obtain ⟨⟨⟨hE, r0, r1⟩, -, ⟨w1, w2, -⟩, -, ⟨i1, i2, i3⟩⟩, -, -, -, ⟨h7, h31, h8⟩, hN, hw, hs⟩ := id hx
  have oh := hs.1 h (by omega)
  have ht := oh.2.1 (by omega)
  have eN : (z σ p 11).toNat = N := by omega
  have hcb : cb (z σ 9) (h + 1) = cb (z σ 9) h + 1 := by
    show cb (z σ 9) h + (if z σ 9 h = 4 then 1 else 0) = _
    rw [if_pos hk]
  have hcb2 := cb_bd (z σ 9) h
  refine b_Pa_closeLoop_0 hp r0 r1 hE (x_addStep hp hE ⟨by omega, by omega⟩ ⟨by decide, by decide⟩ ⟨by decide, by decide⟩ (z_R _ _ _) (fun ρ f gp g11 q5 q6 q7 q8 q9 => ?_))
  rw [eN] at q5 q6 q7 q8 q9
  have fE := fr_E f hE
  have o : ∀ a, a ∉ [p, p + 5, p + 6, p + 7, p + 8, p + 9] → z ρ a = z σ a := fun a h => fr_zF f h
  refine b_Pa_closeLoop_17 hp (by rw [fr_r f]; exact r0) (by rw [fr_r f]; exact r1) fE ?_
  rw [Int.toNat_natCast, o 10 (by simp; omega), o 11 (by simp; omega), o 12 (by simp; omega), o 13 (by simp; omega), o 8 (by simp; omega), gp 4 (by decide), eN]
  refine ⟨⟨by omega, by omega⟩, ⟨by omega, by omega⟩, ⟨by omega, by omega⟩, ?_⟩
  obtain ⟨o6, o7, o8⟩ := oh.2.2.2.2.2
  have hm : 0 ≤ z σ 11 h * (z σ 12 h + z σ 13 h + 8 * z σ p 4) ∧ z σ 11 h * (z σ 12 h + z σ 13 h + 8 * z σ p 4) ≤ 255 * 3098 := ⟨Int.mul_nonneg o6.1 (by omega), Int.mul_le_mul o6.2 (by omega) (by omega) (by decide)⟩
  refine x_capped (by omega) (zs_E (zs_E (zs_E fE))) ⟨by omega, by omega⟩ (b_Pa_closeLoop_105 hp (by rw [zs_r, zs_r, zs_r, fr_r f]; exact r0) (by rw [zs_r, zs_r, zs_r, fr_r f]; exact r1) (zs_E (zs_E (zs_E fE))) ⟨_, ⟨by omega, by omega⟩, rfl, ?_⟩)
  have a9 : z (zs (zs (zs ρ (p + 9) N (z σ 10 h)) (p + 9) (z σ 10 h).toNat (z ρ p 11)) 8 8 (z σ 8 8 - 1)) (p + 9) = up (up (up (z σ (p + 9)) N 0) N (z σ 10 h)) (z σ 10 h).toNat ((N : Int) + 1) := by
    rw [z_oF (by omega), z_up (z_R _ _ _), z_up (z_R _ _ _), q9, g11, hN]
  have oo : ∀ a, a ≠ p + 9 → a ≠ 8 → z (zs (zs (zs ρ (p + 9) N (z σ 10 h)) (p + 9) (z σ 10 h).toNat (z ρ p 11)) 8 8 (z σ 8 8 - 1)) a = z ρ a := fun a h g => by rw [z_oF g, z_oF h, z_oF h]
  have s8 : z (zs (zs (zs ρ (p + 9) N (z σ 10 h)) (p + 9) (z σ 10 h).toNat (z ρ p 11)) 8 8 (z σ 8 8 - 1)) 8 8 = z σ 8 8 - 1 := z_s ⟨by omega, by omega⟩
  have s7 : z (zs (zs (zs ρ (p + 9) N (z σ 10 h)) (p + 9) (z σ 10 h).toNat (z ρ p 11)) 8 8 (z σ 8 8 - 1)) 8 7 = z σ 8 7 := by rw [z_k (by decide), z_o (by omega), z_o (by omega), o 8 (by simp; omega)]
  have fr2 : fr [8, 9, 10, 11, 12, 13, p, p + 5, p + 6, p + 7, p + 8, p + 9] σ (zs (zs (zs ρ (p + 9) N (z σ 10 h)) (p + 9) (z σ 10 h).toNat (z ρ p 11)) 8 8 (z σ 8 8 - 1)) := fr_s (fr_s (fr_s (fr_mono f (by simp)) (by simp)) (by simp)) (by simp)
  have r2 : q_r (zs (zs (zs ρ (p + 9) N (z σ 10 h)) (p + 9) (z σ 10 h).toNat (z ρ p 11)) 8 8 (z σ 8 8 - 1)) = q_r ρ := rfl
  have E2 : q_E (zs (zs (zs ρ (p + 9) N (z σ 10 h)) (p + 9) (z σ 10 h).toNat (z ρ p 11)) 8 8 (z σ 8 8 - 1)) := zs_E (zs_E (zs_E fE))
  generalize zs (zs (zs ρ (p + 9) N (z σ 10 h)) (p + 9) (z σ 10 h).toNat (z ρ p 11)) 8 8 (z σ 8 8 - 1) = π at *
  have pp : ∀ k, k ≠ 11 → z π p k = z σ p k := fun k hk => by rw [oo p (by omega) (by omega), gp k hk]
  have p9 : z π 9 = z σ 9 := by rw [oo 9 (by omega) (by omega), o 9 (by simp; omega)]
  refine kk π E2 (by rw [r2, fr_r f]; exact r0) (by rw [r2, fr_r f]; exact r1) (by rw [s7]; omega) ?_ ⟨by rw [oo 2 (by omega) (by omega), o 2 (by simp; omega)], pp, p9, by rw [oo 10 (by omega) (by omega), o 10 (by simp; omega)], by rw [oo 11 (by omega) (by omega), o 11 (by simp; omega)], by rw [oo 12 (by omega) (by omega), o 12 (by simp; omega)], by rw [oo 13 (by omega) (by omega), o 13 (by simp; omega)], by rw [oo (p + 5) (by omega) (by omega), q5], by rw [oo (p + 6) (by omega) (by omega), q6], by rw [oo (p + 7) (by omega) (by omega), q7], by rw [oo (p + 8) (by omega) (by omega), q8], a9, by rw [oo (p + 10) (by omega) (by omega), o (p + 10) (by simp)], by rw [oo (p + 11) (by omega) (by omega), o (p + 11) (by simp)], by rw [oo (p + 12) (by omega) (by omega), o (p + 12) (by simp)]⟩
  have u : ∀ a, a ≠ 8 → z (zs π 8 7 (h : Int)) a = z π a := fun a h => z_oF h
  refine PX_mk hp hx (fr_s fr2 (by simp)) (fun k _ _ k11 => by rw [u p (by omega)]; exact pp k k11) (z_s ⟨by omega, by omega⟩) (by omega) ?_ ?_ ?_ ?_
  · rw [z_k (by decide), u 9 (by decide), s8, p9, h8, hcb]; omega
  · rw [u p (by omega), oo p (by omega) (by omega)]; omega
  · rw [u p (by omega), pp 8 (by decide)]; exact hw
  · rw [u p (by omega), pp 7 (by decide), u 9 (by decide), u 10 (by decide), u 11 (by decide), u 12 (by decide), u 13 (by decide), u (p + 5) (by omega), u (p + 6) (by omega), u (p + 7) (by omega), u (p + 8) (by omega), u (p + 9) (by omega), a9, p9, oo 10 (by omega) (by omega), oo 11 (by omega) (by omega), oo 12 (by omega) (by omega), oo 13 (by omega) (by omega), oo (p + 5) (by omega) (by omega), oo (p + 6) (by omega) (by omega), oo (p + 7) (by omega) (by omega), oo (p + 8) (by omega) (by omega), o 10 (by simp; omega), o 11 (by simp; omega), o 12 (by simp; omega), o 13 (by simp; omega), q5, q6, q7, q8]
    exact SX_loop hs (by omega) hk i1
theorem w_else {K : q_H → Prop} (hd : 1 ≤ d) (hp : p = 16 ∨ p = 29) (ks : KS T σ0) (hx : PX T p σ0 σ (h + 1) N) (hk : z σ 9 h = 2) (hb : 5 * ((N : Int) + 1 + cn (z σ 9) (h + 1)) ≤ 2 * z σ0 5 (z σ 2 8).toNat)
    (kk : ∀ ρ, PX T p σ0 ρ (h + 1) (N + 1) → z ρ 2 = z σ 2 → (∀ k, k ≠ 11 → z ρ p k = z σ p k) → z ρ 9 = up (z σ 9) h 3 → z ρ 10 = up (z σ 10) h (N : Int) → z ρ 11 = z σ 11 → z ρ 12 = z σ 12 → z ρ 13 = z σ 13 → z ρ (p + 5) = up (z σ (p + 5)) N 5 → z ρ (p + 6) = up (z σ (p + 6)) N 0 → z ρ (p + 7) = up (z σ (p + 7)) N (z σ p 17) → z ρ (p + 8) = up (z σ (p + 8)) N (z σ p 17) → z ρ (p + 9) = up (up (z σ (p + 9)) N 0) (z σ 10 h).toNat ((N : Int) + 1) → z ρ (p + 10) = z σ (p + 10) → z ρ (p + 11) = z σ (p + 11) → z ρ (p + 12) = z σ (p + 12) → K ρ) :
    J ω m_Pa_goOnWithElse d 0 0 0 0 0 [(0, .ref 8), (1, .int (zI (h : Int)))] [] σ (q_kv K) := by
  obtain ⟨d, rfl⟩ : ∃ k, d = k + 1 := ⟨d - 1, by omega⟩
  have hn := PX_N ks hx
  obtain ⟨⟨⟨hE, r0, r1⟩, -, ⟨w1, w2, -⟩, -, ⟨i1, i2, i3⟩⟩, -, -, -, ⟨h7, h31, h8⟩, hN, hw, hs⟩ := id hx
  have oh := hs.1 h (by omega)
  have ht := oh.2.1 (by omega)
  have eN : (z σ p 11).toNat = N := by omega
  refine b_Pa_goOnWithElse_0 hp r0 r1 hE (x_addStep hp hE ⟨by omega, by omega⟩ ⟨by decide, by decide⟩ ⟨by decide, by decide⟩ (z_R _ _ _) (fun ρ f gp g11 q5 q6 q7 q8 q9 => ?_))
  rw [eN] at q5 q6 q7 q8 q9
  have fE := fr_E f hE
  have o : ∀ a, a ∉ [p, p + 5, p + 6, p + 7, p + 8, p + 9] → z ρ a = z σ a := fun a h => fr_zF f h
  refine b_Pa_goOnWithElse_16 hp (by rw [fr_r f]; exact r0) (by rw [fr_r f]; exact r1) fE ?_
  rw [Int.toNat_natCast, o 10 (by simp; omega)]
  refine ⟨⟨by omega, by omega⟩, ⟨by omega, by omega⟩, rfl, ?_⟩
  have a9 : z (zs (zs (zs ρ (p + 9) (z σ 10 h).toNat (z ρ p 11)) 10 h (z σ p 11)) 9 h 3) (p + 9) = up (up (z σ (p + 9)) N 0) (z σ 10 h).toNat ((N : Int) + 1) := by
    rw [z_oF (by omega), z_oF (by omega), z_up (z_R _ _ _), q9, g11, hN]
  have a10 : z (zs (zs (zs ρ (p + 9) (z σ 10 h).toNat (z ρ p 11)) 10 h (z σ p 11)) 9 h 3) 10 = up (z σ 10) h (N : Int) := by
    rw [z_oF (by omega), z_up (z_R _ _ _), z_oF (by omega), o 10 (by simp; omega), hN]
  have b9 : z (zs (zs (zs ρ (p + 9) (z σ 10 h).toNat (z ρ p 11)) 10 h (z σ p 11)) 9 h 3) 9 = up (z σ 9) h 3 := by
    rw [z_up ⟨by decide, by decide⟩, z_oF (by omega), z_oF (by omega), o 9 (by simp; omega)]
  have oo : ∀ a, a ≠ p + 9 → a ≠ 10 → a ≠ 9 → z (zs (zs (zs ρ (p + 9) (z σ 10 h).toNat (z ρ p 11)) 10 h (z σ p 11)) 9 h 3) a = z ρ a := fun a h g k => by rw [z_oF k, z_oF g, z_oF h]
  have fr2 : fr [8, 9, 10, 11, 12, 13, p, p + 5, p + 6, p + 7, p + 8, p + 9] σ (zs (zs (zs ρ (p + 9) (z σ 10 h).toNat (z ρ p 11)) 10 h (z σ p 11)) 9 h 3) := fr_s (fr_s (fr_s (fr_mono f (by simp)) (by simp)) (by simp)) (by simp)
  generalize zs (zs (zs ρ (p + 9) (z σ 10 h).toNat (z ρ p 11)) 10 h (z σ p 11)) 9 h 3 = π at *
  have pp : ∀ k, k ≠ 11 → z π p k = z σ p k := fun k hk => by rw [oo p (by omega) (by omega) (by omega), gp k hk]
  have p8 : z π 8 = z σ 8 := by rw [oo 8 (by omega) (by omega) (by omega), o 8 (by simp; omega)]
  refine kk π ?_ (by rw [oo 2 (by omega) (by omega) (by omega), o 2 (by simp; omega)]) pp b9 a10 (by rw [oo 11 (by omega) (by omega) (by omega), o 11 (by simp; omega)]) (by rw [oo 12 (by omega) (by omega) (by omega), o 12 (by simp; omega)]) (by rw [oo 13 (by omega) (by omega) (by omega), o 13 (by simp; omega)]) (by rw [oo (p + 5) (by omega) (by omega) (by omega), q5]) (by rw [oo (p + 6) (by omega) (by omega) (by omega), q6]) (by rw [oo (p + 7) (by omega) (by omega) (by omega), q7]) (by rw [oo (p + 8) (by omega) (by omega) (by omega), q8]) a9 (by rw [oo (p + 10) (by omega) (by omega) (by omega), o (p + 10) (by simp)]) (by rw [oo (p + 11) (by omega) (by omega) (by omega), o (p + 11) (by simp)]) (by rw [oo (p + 12) (by omega) (by omega) (by omega), o (p + 12) (by simp)])
  refine PX_mk hp hx fr2 (fun k _ _ k11 => pp k k11) (by rw [p8]; exact h7) h31 ?_ ?_ ?_ ?_
  · rw [p8, b9, h8]
    show cb (z σ 9) h + (if z σ 9 h = 4 then 1 else 0) = cb (up (z σ 9) h 3) h + (if up (z σ 9) h 3 h = 4 then 1 else 0)
    rw [cb_up h (Nat.le_refl _), up_s, if_neg (by omega), if_neg (by decide)]
  · rw [oo p (by omega) (by omega) (by omega)]; omega
  · rw [pp 8 (by decide)]; exact hw
  · rw [pp 7 (by decide), a9, a10, b9, oo 11 (by omega) (by omega) (by omega), oo 12 (by omega) (by omega) (by omega), oo 13 (by omega) (by omega) (by omega), oo (p + 5) (by omega) (by omega) (by omega), oo (p + 6) (by omega) (by omega) (by omega), oo (p + 7) (by omega) (by omega) (by omega), oo (p + 8) (by omega) (by omega) (by omega), o 11 (by simp; omega), o 12 (by simp; omega), o 13 (by simp; omega), q5, q6, q7, q8]
    exact SX_else hs hb (Int.le_refl _) (by omega) hk i1
/-- WORK and more of it -/
theorem cpq_in {I x : Int} {ins m : Nat} (hI : I = ((min ins 1501 : Nat) : Int)) (hc : cpq x m) : min (I + x) 1501 = ((min (ins + m) 1501 : Nat) : Int) := by
  obtain ⟨a, b, c⟩ := hc
  omega
theorem cpq_mk {m : Nat} {v : Int} (h : v = ((min m 1501 : Nat) : Int)) : cpq v m := by unfold cpq; omega
theorem l_finish {Kk : q_H → Prop} {P : Nat → Int} {V as w : Nat} {ff : Option (Int × Nat)} (hd : 3 ≤ d) (hp : p = 16 ∨ p = 29) (ks : KS T σ0) (hV : z σ0 p 4 = (V : Int)) {C' : q_Cs} {n0 : Nat} {i0 : Int} {A0 : Nat → Int} (kk : ∀ τ, PX T p σ0 τ C'.2.1.length C'.2.2.1.length → AQ p P C' τ → n0 ≤ C'.2.2.1.length ∧ (n0 = 0 → C'.2.2.1.length = 0) → z τ p 17 = i0 → (∀ i, i < n0 → z τ (p + 5) i = A0 i) → Kk τ) : ∀ (S : List q_Fr) (t : Nat) (st : List q_St) (m : Nat) (x2 : Int) (σ : q_H), cE (z σ0 4) V (t, S, st, as, w, ff) m = C' → PX T p σ0 σ S.length st.length → AQ p P (t, S, st, as, w, ff) σ → n0 ≤ st.length ∧ (n0 = 0 → st.length = 0) → z σ p 17 = i0 → (∀ i, i < n0 → z σ (p + 5) i = A0 i) → cpq x2 m → J ω m_Pa_finish (d + 1) 0 0 0 0 2 [(0, .ref 8), (2, .int (zI x2))] [] σ (q_kv Kk) := by
  intro S
  induction S with
  | nil =>
    intro t st m x2 σ hC hx hq hn0 hi0 hA0 h2
    obtain ⟨⟨⟨hE, r0, r1⟩, -⟩, -, -, -, ⟨h7, h31, h8⟩, hN, hw, hs⟩ := id hx
    obtain ⟨a1, a2, a3, ⟨a4, a5⟩, a6, a7, a8⟩ := id hq
    have hcp := cpq_in a7 h2
    dsimp only at a1 a2 a3 a4 a5 a6 a7 a8 hcp
    have b2 := h2.1
    have b3 := h2.2.1
    have h7' : z σ 8 7 = 0 := h7
    refine b_Pa_finish_2 hp r0 r1 hE ⟨fun _ => x_capped (by omega) hE ⟨by omega, by omega⟩ (b_Pa_finish_132 hp r0 r1 hE ⟨rfl, ?_⟩), fun c => absurd c (by omega)⟩
    have u : ∀ a, a ≠ p → z (zs σ p 8 (min (z σ p 8 + x2) 1501)) a = z σ a := fun a h => z_oF h
    subst hC
    refine kk _ ?_ ?_ hn0 (by rw [z_k (by decide)]; exact hi0) (fun i hi => by rw [z_o (by omega)]; exact hA0 i hi)
    · refine PX_mk hp hx (fr_s fr_refl (by simp)) (fun k _ k8 _ => z_k k8) (by rw [u 8 (by omega)]; exact h7) h31 (by rw [u 8 (by omega), u 9 (by omega)]; exact h8) (by rw [z_k (by decide)]; exact hN) (by rw [z_s ⟨by omega, by omega⟩]; omega) ?_
      rw [z_k (by decide), u 9 (by omega), u 10 (by omega), u 11 (by omega), u 12 (by omega), u 13 (by omega), u (p + 5) (by omega), u (p + 6) (by omega), u (p + 7) (by omega), u (p + 8) (by omega), u (p + 9) (by omega)]
      exact hs
    · unfold AQ cE cF
      dsimp only
      rw [u 2 (by omega), u 9 (by omega), u 10 (by omega), u 11 (by omega), u 12 (by omega), u 13 (by omega), u (p + 5) (by omega), u (p + 6) (by omega), u (p + 7) (by omega), u (p + 8) (by omega), u (p + 9) (by omega), u (p + 10) (by omega), u (p + 11) (by omega), u (p + 12) (by omega), z_k (show 17 ≠ 8 by decide), z_k (show 7 ≠ 8 by decide), z_k (show 9 ≠ 8 by decide), z_k (show 10 ≠ 8 by decide), z_s ⟨by omega, by omega⟩]
      exact ⟨a1, a2, a3, ⟨a4, a5⟩, a6, hcp, a8⟩
  | cons f S ih =>
    intro t st m x2 σ hC hx hq hn0 hi0 hA0 h2
    have hcc := PX_c hx
    have hn := PX_N ks hx
    obtain ⟨⟨⟨hE, r0, r1⟩, ⟨c1, c2, c3⟩, -⟩, -, -, gp, ⟨h7, h31, h8⟩, hN, hw, hs⟩ := id hx
    obtain ⟨a1, ⟨⟨b1, b2, b3, b4, b5⟩, a2⟩, a3, ⟨a4, a5⟩, a6, a7, a8⟩ := id hq
    dsimp only at a1 a3 a4 a5 a6 a7 a8
    have h7' : z σ 8 7 = (S.length : Int) + 1 := h7
    have h31' : S.length + 1 ≤ 31 := h31
    have e7 : z σ 8 7 - 1 = (S.length : Int) := by omega
    have oh := hs.1 S.length (by simp)
    have hV2 : z σ p 4 = (V : Int) := (gp 4 (by decide) (by decide) (by decide) (by decide) (by decide) (by decide)).trans hV
    have hcp := cpq_in b5 h2
    have c0 := h2.1
    have c01 := h2.2.1
    refine b_Pa_finish_2 hp r0 r1 hE ⟨fun c => absurd c (by omega), fun _ => ?_⟩
    rw [e7, Int.toNat_natCast]
    have o8 := oh.2.2.2.2.2.2.2
    refine ⟨⟨by omega, by omega⟩, x_capped (by omega) hE ⟨by omega, by omega⟩ (b_Pa_finish_32 hp r0 r1 hE ?_)⟩
    rw [Int.toNat_natCast]
    have hv : 0 ≤ min (z σ 13 S.length + x2) 1501 ∧ min (z σ 13 S.length + x2) 1501 ≤ 1501 := by omega
    generalize min (z σ 13 S.length + x2) 1501 = v at hv hcp ⊢
    have u : ∀ a, a ≠ 13 → z (zs σ 13 S.length v) a = z σ a := fun a h => z_oF h
    have u13 : z (zs σ 13 S.length v) 13 = up (z σ 13) S.length v := z_up ⟨by omega, by omega⟩
    have hx2 : PX T p σ0 (zs σ 13 S.length v) (S.length + 1) st.length := by
      refine PX_mk hp hx (fr_s fr_refl (by simp)) (fun k _ _ _ => z_o (by omega)) (by rw [u 8 (by omega)]; exact h7) h31 (by rw [u 8 (by omega), u 9 (by omega)]; exact h8) (by rw [z_o (by omega)]; exact hN) (by rw [u p (by omega)]; exact hw) ?_
      rw [u p (by omega), u13, u 9 (by omega), u 10 (by omega), u 11 (by omega), u 12 (by omega), u (p + 5) (by omega), u (p + 6) (by omega), u (p + 7) (by omega), u (p + 8) (by omega), u (p + 9) (by omega)]
      exact SX_in hs hv
    have hq2 : AQ p P (t, (f.1, f.2.1, f.2.2.1, f.2.2.2.1, f.2.2.2.2 + m) :: S, st, as, w, ff) (zs σ 13 S.length v) := by
      unfold AQ
      dsimp only
      rw [u 2 (by omega), u 9 (by omega), u 10 (by omega), u 11 (by omega), u 12 (by omega), u p (by omega), u (p + 5) (by omega), u (p + 6) (by omega), u (p + 7) (by omega), u (p + 8) (by omega), u (p + 9) (by omega), u (p + 10) (by omega), u (p + 11) (by omega), u (p + 12) (by omega), u13]
      exact ⟨a1, ⟨⟨b1, b2, b3, b4, up_s.trans hcp⟩, frF_cong S a2 (fun j hj => ⟨rfl, rfl, rfl, rfl, up_n (by omega)⟩)⟩, a3, ⟨a4, a5⟩, a6, a7, a8⟩
    have k4 : z σ 4 (z σ 2 8).toNat = z σ0 4 t := by rw [(PX_4 hp hx).1, a1, Int.toNat_natCast]
    have oo : ∀ a, a ≠ 13 → z (zs σ 13 S.length v) a S.length = z σ a S.length := fun a h => by rw [u a h]
    have i17 : z (zs σ 13 S.length v) p 17 = i0 := by rw [u p (by omega)]; exact hi0
    have iA : ∀ i, i < n0 → z (zs σ 13 S.length v) (p + 5) i = A0 i := fun i hi => by rw [u (p + 5) (by omega)]; exact hA0 i hi
    have o9 : z (zs σ 13 S.length v) 9 S.length = f.1 := by rw [u 9 (by decide)]; exact b1
    have o10 : z (zs σ 13 S.length v) 10 S.length = (f.2.1 : Int) := by rw [u 10 (by decide)]; exact b2
    have o11 : z (zs σ 13 S.length v) 11 S.length = f.2.2.1 := by rw [u 11 (by decide)]; exact b3
    have o12 : z (zs σ 13 S.length v) 12 S.length = ((min f.2.2.2.1 1501 : Nat) : Int) := by rw [u 12 (by decide)]; exact b4
    have o13 : z (zs σ 13 S.length v) 13 S.length = ((min (f.2.2.2.2 + m) 1501 : Nat) : Int) := by rw [u13, up_s]; exact hcp
    have oV : z (zs σ 13 S.length v) p 4 = (V : Int) := by rw [u p (by omega)]; exact hV2
    have ro := oh.2.2.2.2.2.1
    have kr := oh.1
    have htu := oh.2.1
    rw [b1] at kr htu
    rw [b2] at htu
    rw [b3] at ro
    have st0 : f.1 ≠ 1 → n0 = 0 → False := fun q c => by have := hn0.2 c; have := htu q; omega
    rw [b1]
    clear hq hx hs oh
    generalize zs σ 13 S.length v = σ2 at *
    have go79 : f.1 ≠ 1 → ¬ (f.1 = 2 ∧ z σ0 4 t = 42) → J ω m_Pa_finish (d + 1) 0 0 0 0 79 [(0, .ref 8), (3, .int (zI (S.length : Int)))] [] σ2 (q_kv Kk) := by
      intro h1 h42
      obtain ⟨⟨⟨hE2, r02, r12⟩, -⟩, -⟩ := id hx2
      refine b_Pa_finish_79 hp r02 r12 hE2 ?_
      rw [Int.toNat_natCast, o9]
      refine ⟨⟨by omega, by omega⟩, fun c4 => ?_, fun c4 => ?_⟩
      · refine w_closeBranch (by omega) hp ks hx2 (by omega) (fun ρ E3 r03 r13 s7 hp3 he => ?_)
        have hq3 := AQ_close (h' := (S.length : Int)) hp hq2 he
        rw [o10, Int.toNat_natCast] at hq3
        refine b_Pa_finish_102 hp r03 r13 E3 ?_
        rw [show z ρ 8 7 - 1 = (S.length : Int) by omega, o12, o13, oV]
        have ez : ∀ a k, a ≠ 8 → z (zs ρ 8 7 (S.length : Int)) a k = z ρ a k := fun a k h => z_o h
        refine ih t _ (f.2.2.2.1 + (f.2.2.2.2 + m) + 8 * V) _ _ ?_ (by rw [stG_len]; simpa using hp3) hq3 ⟨by rw [stG_len]; simp; omega, fun c => absurd c (st0 h1)⟩ (by rw [ez p 17 (by omega), he.2.1 17 (by decide)]; exact i17) (fun i hi => by rw [ez _ _ (by omega), he.2.2.2.2.2.2.2.1, up_n (by omega)]; exact iA i hi) (cpq_mk (by omega))
        rw [← hC]
        conv => rhs; unfold cE cF
        dsimp only
        rw [if_neg h1, if_neg h42, if_neg c4]; rfl
      · refine w_closeLoop (by omega) hp ks hx2 (by omega) (fun ρ E3 r03 r13 s7 hp3 he => ?_)
        rw [up_up, o10, Int.toNat_natCast] at he
        have hq3 := AQ_close (h' := (S.length : Int)) hp hq2 he
        refine b_Pa_finish_94 hp r03 r13 E3 (b_Pa_finish_102 hp r03 r13 E3 ?_)
        rw [show z ρ 8 7 - 1 = (S.length : Int) by omega]
        have ez : ∀ a k, a ≠ 8 → z (zs ρ 8 7 (S.length : Int)) a k = z ρ a k := fun a k h => z_o h
        have cw := cap_w (V := V) (m := m) (te := f.2.2.2.1) (ins := f.2.2.2.2) (r := f.2.2.1.toNat) (R := z σ2 11 S.length) (T := z σ2 12 S.length) (I := z σ2 13 S.length) (by rw [o11]; omega) o12 o13
        rw [oV, cw]
        refine ih t _ (f.2.2.1.toNat * (f.2.2.2.1 + (f.2.2.2.2 + m) + 8 * V) + f.2.2.2.1) _ _ ?_ (by rw [stG_len]; simpa using hp3) hq3 ⟨by rw [stG_len]; simp; omega, fun c => absurd c (st0 h1)⟩ (by rw [ez p 17 (by omega), he.2.1 17 (by decide)]; exact i17) (fun i hi => by rw [ez _ _ (by omega), he.2.2.2.2.2.2.2.1, up_n (by omega)]; exact iA i hi) (cpq_mk rfl)
        rw [← hC]
        conv => rhs; unfold cE cF
        dsimp only
        rw [if_neg h1, if_neg h42, if_pos c4]; rfl
    have bigc : cE (z σ0 4) V (t, f :: S, st, as, w, ff) m = C' := hC
    refine ⟨⟨by omega, by omega⟩, ⟨by omega, by omega⟩, fun k1 => ⟨fun k2 => go79 k1 (fun q => k2 q.1), fun k2 => ⟨⟨by omega, by omega⟩, fun k42 => go79 k1 (fun q => k42 (k4.trans q.2)), fun k42 => ?_⟩⟩, fun k1 => ⟨rfl, ?_⟩⟩
    · have t42 : z σ0 4 t = 42 := k4.symm.trans k42
      have q1 := hq2.1
      dsimp only at q1
      refine y_adv hp ks hx2 (fun τ c e1 ht e2 e3 e4 e5 => ?_)
      have s4 : z σ2 4 (z σ2 2 8).toNat = 42 := by rw [(PX_4 hp hx2).1, q1, Int.toNat_natCast]; exact t42
      have e6 := e5 (by rw [s4]; decide)
      have tz : ∀ a, a ≠ 2 → z τ a = z σ2 a := fun a h => by rw [e1]; exact z_oF h
      have t9 : z τ 9 = z σ2 9 := tz 9 (by decide)
      obtain ⟨⟨⟨hE3, r03, r13⟩, -⟩, -⟩ := id ht
      have hn2 := PX_N ks hx2
      refine b_Pa_finish_73 hp r03 r13 hE3 (w_else (by omega) hp ks ht (by rw [t9]; omega) ?_ (fun π hπ g2 gp2 g9 g10 g11 g12 g13 g5 g6 g7 g8 g99 g110 g111 g112 => ?_))
      · have a := ks.1 t (by omega)
        rw [t42] at a
        rw [t9, e2, show c.toNat = t + 1 by omega]
        have : (kl 42 : Int) = 4 := by decide
        rw [q1, Int.toNat_natCast] at hn2
        omega
      · obtain ⟨⟨⟨hE4, r04, r14⟩, -⟩, -⟩ := id hπ
        have eC : C' = (t + 1, (3, st.length, f.2.2.1, f.2.2.2.1, f.2.2.2.2 + m) :: S, stG (st ++ [(5, 0, 0, [])]) f.2.1 ((st.length + 1 : Nat) : Int), as, w, ff) := by
          rw [← bigc]
          unfold cE cF
          dsimp only
          rw [if_neg k1, if_pos ⟨k2, t42⟩]
        have lC : C'.2.2.1.length = st.length + 1 := by rw [eC]; dsimp only; rw [stG_len]; simp
        refine b_Pa_finish_78 hp r04 r14 hE4 ⟨rfl, kk π ?_ ?_ ⟨by omega, fun c => absurd c (st0 k1)⟩ (by rw [gp2 17 (by decide), tz p (by omega)]; exact i17) (fun i hi => by rw [g5, up_n (by omega), tz (p + 5) (by omega)]; exact iA i hi)⟩
        · rw [lC]; rw [eC]; exact hπ
        · obtain ⟨d1, ⟨⟨f1, f2, f3, f4, f5⟩, d2⟩, d3, ⟨d4, d5⟩, d6, d7, d8⟩ := hq2
          dsimp only at d1 d3 d4 d5 d6 d7 d8 f1 f2 f3 f4 f5
          rw [eC]
          unfold AQ
          dsimp only
          rw [g2, g9, g10, g11, g12, g13, g5, g6, g7, g8, g99, g110, g111, g112, gp2 17 (by decide), gp2 7 (by decide), gp2 8 (by decide), gp2 9 (by decide), gp2 10 (by decide), t9, tz 10 (by decide), tz 11 (by decide), tz 12 (by decide), tz 13 (by decide), tz p (by omega), tz (p + 5) (by omega), tz (p + 6) (by omega), tz (p + 7) (by omega), tz (p + 8) (by omega), tz (p + 9) (by omega), tz (p + 10) (by omega), tz (p + 11) (by omega), tz (p + 12) (by omega), o10, Int.toNat_natCast, itF_G, itF_app]
          refine ⟨by rw [e2]; omega, ⟨⟨up_s, up_s, f3, f4, f5⟩, frF_cong S d2 (fun j hj => ⟨up_n (by omega), up_n (by omega), rfl, rfl, rfl⟩)⟩, lsS_G0 (lsS_add d3 d4 (by rw [d4]; simp)), ⟨?_, ?_⟩, d6, d7, d8⟩
          · rw [show itF st ++ itF [(5, 0, 0, [])] = itF st from List.append_nil _]; exact d4
          · rw [show itF st ++ itF [(5, 0, 0, [])] = itF st from List.append_nil _]; exact d5
    · have f1 : f.1 = 1 := k1
      have eC : C' = (t, (f.1, f.2.1, f.2.2.1, f.2.2.2.1, f.2.2.2.2 + m) :: S, st, as, w, ff) := by
        rw [← bigc]
        unfold cE cF
        dsimp only
        rw [if_pos f1]
      refine kk _ ?_ ?_ ?_ i17 iA
      · rw [eC]; exact hx2
      · rw [eC]; exact hq2
      · rw [eC]; exact hn0
theorem w_finish {Kk : q_H → Prop} {P : Nat → Int} {V as w t m : Nat} {ff : Option (Int × Nat)} {S : List q_Fr} {st : List q_St} {x1 : Int} (hd : 4 ≤ d) (hp : p = 16 ∨ p = 29) (ks : KS T σ0) (hV : z σ0 p 4 = (V : Int)) (hx : PX T p σ0 σ S.length st.length) (hq : AQ p P (t, S, st, as, w, ff) σ) (h2 : cpq x1 m) (kk : ∀ τ C', C' = cE (z σ0 4) V (t, S, st, as, w, ff) m → PX T p σ0 τ C'.2.1.length C'.2.2.1.length → AQ p P C' τ → st.length ≤ C'.2.2.1.length ∧ (st.length = 0 → C'.2.2.1.length = 0) → z τ p 17 = z σ p 17 → (∀ i, i < st.length → z τ (p + 5) i = z σ (p + 5) i) → Kk τ) : J ω m_Pa_finish d 0 0 0 0 0 [(0, .ref 8), (1, .int (zI x1))] [] σ (q_kv Kk) := by
  obtain ⟨d, rfl⟩ : ∃ k, d = k + 1 := ⟨d - 1, by omega⟩
  obtain ⟨⟨⟨hE, r0, r1⟩, -⟩, -⟩ := id hx
  exact b_Pa_finish_0 hp r0 r1 hE (l_finish (by omega) hp ks hV (fun τ a b c e f => kk τ _ rfl a b c e f) S t st m x1 σ rfl hx hq ⟨Nat.le_refl _, id⟩ rfl (fun _ _ => rfl) h2)
end AeP
