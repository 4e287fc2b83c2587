/-! THE CLASS READS STATEMENTS: settings and claims, their steps -/
/-- as AQ, with items read ahead of the steps -/
def AI (p : Nat) (P : Nat → Int) (C : q_Cs) (its : List q_It) (σ : q_H) : Prop :=
  z σ 2 8 = (C.1 : Int) ∧ frF (z σ 9) (z σ 10) (z σ 11) (z σ 12) (z σ 13) C.2.1 ∧ lsS (z σ (p + 5)) (z σ (p + 6)) (z σ (p + 9)) (z σ (p + 7)) (z σ (p + 8)) C.2.2.1 0 0 ∧ (z σ p 17 = (its.length : Int) ∧ lsI its (z σ (p + 10)) (z σ (p + 11)) (z σ (p + 12))) ∧
  z σ p 7 = (C.2.2.2.1 : Int) ∧ z σ p 8 = ((min C.2.2.2.2.1 1501 : Nat) : Int) ∧ FB P C.2.2.2.2.2 (z σ p 9) (z σ p 10)
section AgP
variable {ω : q_W} {d T p h N : Nat} {σ0 σ ρ : q_H}
theorem w_accept {K : Int → q_H → Prop} {x1 : Int} (hd : 1 ≤ d) (hp : p = 16 ∨ p = 29) (ks : KS T σ0) (hx : PX T p σ0 σ h N) (hx1 : inR x1) (h46 : x1 ≠ 46) (k0 : z σ 4 (z σ 2 8).toNat ≠ x1 → K 0 σ) (kk : z σ 4 (z σ 2 8).toNat = x1 → ∀ τ, τ = zs σ 2 8 (z σ 2 8 + 1) → PX T p σ0 τ h N → z τ 2 8 = z σ 2 8 + 1 → z σ 2 8 + 1 ≤ T → K 1 τ) : J ω m_Pa_accept d 0 0 0 0 0 [(0, .ref 8), (1, .int (zI x1))] [] σ (q_ki K) := by
  obtain ⟨d, rfl⟩ : ∃ k, d = k + 1 := ⟨d - 1, by omega⟩
  have hc := PX_c hx
  obtain ⟨⟨⟨hE, r0, r1⟩, -⟩, -⟩ := id hx
  refine b_Pa_accept_0 hp r0 r1 hE ⟨⟨by omega, by omega⟩, hx1, fun c => y_adv hp ks hx (fun τ c' e1 ht e2 e3 e4 e5 => ?_), fun c => ⟨0, ⟨by decide, by decide⟩, rfl, k0 c⟩⟩
  have e6 := e5 (by rw [c]; exact h46)
  obtain ⟨⟨⟨hE2, r02, r12⟩, -⟩, -⟩ := id ht
  subst e6
  exact b_Pa_accept_20 hp r02 r12 hE2 ⟨1, ⟨by decide, by decide⟩, rfl, kk c τ e1 ht e2 e4⟩
theorem AI_28 {P : Nat → Int} {t t2 as w : Nat} {S : List q_Fr} {st : List q_St} {f : Option (Int × Nat)} {its : List q_It} (hp : p = 16 ∨ p = 29) (hq : AI p P (t, S, st, as, w, f) its σ) (h2 : (t2 : Int) ≤ 4097) : AI p P (t2, S, st, as, w, f) its (zs σ 2 8 (t2 : Int)) := by
  obtain ⟨a1, a2, a3, ⟨a4, a5⟩, a6, a7, a8⟩ := hq
  dsimp only at a1 a2 a3 a4 a5 a6 a7 a8
  have u : ∀ a, a ≠ 2 → z (zs σ 2 8 (t2 : Int)) a = z σ a := fun a h => z_oF h
  unfold AI
  dsimp only
  rw [u 9 (by decide), u 10 (by decide), u 11 (by decide), u 12 (by decide), u 13 (by decide), u p (by omega), u (p + 5) (by omega), u (p + 6) (by omega), u (p + 7) (by omega), u (p + 8) (by omega), u (p + 9) (by omega), u (p + 10) (by omega), u (p + 11) (by omega), u (p + 12) (by omega)]
  exact ⟨z_s ⟨by omega, by omega⟩, a2, a3, ⟨a4, a5⟩, a6, a7, a8⟩
/-- an EXPR was read -/
theorem AI_EX {P : Nat → Int} {t t2 as w : Nat} {S : List q_Fr} {st : List q_St} {f f2 : Option (Int × Nat)} {its its2 : List q_It} {τ : q_H} (hp : p = 16 ∨ p = 29) (hq : AI p P (t, S, st, as, w, f) its σ) (he : EX T p σ τ) (h2 : z τ 2 8 = (t2 : Int)) (h17 : z τ p 17 = (its2.length : Int)) (hl : lsI its2 (z τ (p + 10)) (z τ (p + 11)) (z τ (p + 12))) (hf : FB P f2 (z τ p 9) (z τ p 10)) : AI p P (t2, S, st, as, w, f2) its2 τ := by
  obtain ⟨a1, a2, a3, ⟨a4, a5⟩, a6, a7, a8⟩ := hq
  dsimp only at a1 a2 a3 a4 a5 a6 a7 a8
  obtain ⟨-, b9, -, -, -, -, f1, -⟩ := he
  have u : ∀ a, a ∉ [2, 8, 14, 15, p, p + 10, p + 11, p + 12] → z τ a = z σ a := fun a h => fr_zF b9 h
  unfold AI
  dsimp only
  rw [u 9 (by simp; omega), u 10 (by simp; omega), u 11 (by simp; omega), u 12 (by simp; omega), u 13 (by simp; omega), u (p + 5) (by simp; omega), u (p + 6) (by simp; omega), u (p + 7) (by simp; omega), u (p + 8) (by simp; omega), u (p + 9) (by simp; omega), f1 7 (by decide) (by decide) (by decide), f1 8 (by decide) (by decide) (by decide)]
  exact ⟨h2, a2, a3, ⟨h17, hl⟩, a6, a7, hf⟩
/-- a step with those items -/
theorem AI_add {P : Nat → Int} {t as as' w : Nat} {S : List q_Fr} {st : List q_St} {f : Option (Int × Nat)} {its : List q_It} {x1 x2 g : Int} (hp : p = 16 ∨ p = 29) (hq : AI p P (t, S, st, as, w, f) (itF st ++ its) σ) (fr1 : fr [p, p + 5, p + 6, p + 7, p + 8, p + 9] σ ρ) (g7 : z ρ p 7 = (as' : Int)) (gp : ∀ k, k ≠ 7 → k ≠ 11 → z ρ p k = z σ p k) {x3 : Int} (h3 : x3 = ((itF st).length : Int))
    (q5 : z ρ (p + 5) = up (z σ (p + 5)) st.length x1) (q6 : z ρ (p + 6) = up (z σ (p + 6)) st.length x2) (q7 : z ρ (p + 7) = up (z σ (p + 7)) st.length x3) (q8 : z ρ (p + 8) = up (z σ (p + 8)) st.length (z σ p 17)) (q9 : z ρ (p + 9) = up (z σ (p + 9)) st.length g) : AQ p P (t, S, st ++ [(x1, x2, g, its)], as', w, f) ρ := by
  obtain ⟨a1, a2, a3, ⟨a4, a5⟩, a6, a7, a8⟩ := hq
  dsimp only at a1 a2 a3 a4 a5 a6 a7 a8
  have o : ∀ a, a ∉ [p, p + 5, p + 6, p + 7, p + 8, p + 9] → z ρ a = z σ a := fun a h => fr_zF fr1 h
  unfold AQ
  dsimp only
  rw [o 2 (by simp; omega), o 9 (by simp; omega), o 10 (by simp; omega), o 11 (by simp; omega), o 12 (by simp; omega), o 13 (by simp; omega), o (p + 10) (by simp), o (p + 11) (by simp), o (p + 12) (by simp), q5, q6, q7, q8, q9, g7, gp 17 (by decide) (by decide), gp 8 (by decide) (by decide), gp 9 (by decide) (by decide), gp 10 (by decide) (by decide), itF_app]
  have e : itF [((x1, x2, g, its) : q_St)] = its := List.append_nil _
  rw [e]
  exact ⟨a1, a2, lsS_add a3 h3 (by rw [a4, List.length_append]), ⟨a4, a5⟩, rfl, a7, a8⟩
theorem l_simple_130 {Kk : Int → q_H → Prop} {V t as w m as' : Nat} {S : List q_Fr} {st : List q_St} {f : Option (Int × Nat)} {its : List q_It} {x1 x2 x3 x4 : Int} (hd : 4 ≤ d) (hp : p = 16 ∨ p = 29) (ks : KS T σ0) (hV : z σ0 p 4 = (V : Int)) (hx : PX T p σ0 σ S.length st.length) (hq : AI p (z σ0 5) (t, S, st, as, w, f) (itF st ++ its) σ) (e1 : x1 = 1 ∨ x1 = 2 ∨ x1 = 3)
    (hb : 5 * ((st.length : Int) + 1 + cn (z σ 9) S.length) ≤ 2 * z σ0 5 (z σ 2 8).toNat) (h1 : x1 = 1 → 0 ≤ x2 ∧ x2 < 12) (h2 : x1 = 2 → 0 ≤ x2 ∧ x2 < 512) (i2 : inR x2) (h3 : x3 = ((itF st).length : Int)) (h4 : cpq (x4 + 8) m) (ha' : 8 * (as' : Int) ≤ z σ0 5 (z σ 2 8).toNat) (hf17 : 1 ≤ z σ p 17) (hf2 : st.length = 1 → z σ (p + 5) 0 ≠ 7)
    (kk : ∀ τ C', C' = cE (z σ0 4) V (t, S, st ++ [(x1, x2, 0, its)], as', w, f) m → PX T p σ0 τ C'.2.1.length C'.2.2.1.length → AQ p (z σ0 5) C' τ → B0 p τ C'.2.2.1.length → Kk 1 τ) :
    J ω m_Pa_simple (d + 1) 0 0 0 0 130 [(0, .ref 8), (1, .int (zI x1)), (2, .int (zI x2)), (3, .int (zI x3)), (4, .int (zI x4))] [] (zs σ p 7 (as' : Int)) (q_ki Kk) := by
  have hn := PX_N ks hx
  obtain ⟨⟨⟨hE, r0, r1⟩, -, -, -, ⟨i1, i9, -⟩⟩, -, -, -, -, hN, -, -⟩ := id hx
  have a4 : z σ p 17 = (((itF st ++ its).length : Nat) : Int) := hq.2.2.2.1.1
  have u : ∀ a, a ≠ p → z (zs σ p 7 (as' : Int)) a = z σ a := fun a h => z_oF h
  have s7 : z (zs σ p 7 (as' : Int)) p 7 = (as' : Int) := z_s ⟨by omega, by omega⟩
  have sk : ∀ k, k ≠ 7 → z (zs σ p 7 (as' : Int)) p k = z σ p k := fun k h => z_k h
  have e11 : z (zs σ p 7 (as' : Int)) p 11 = (st.length : Int) := (sk 11 (by decide)).trans hN
  have e17 : z (zs σ p 7 (as' : Int)) p 17 = z σ p 17 := sk 17 (by decide)
  have h3b : 0 ≤ x3 ∧ x3 ≤ z σ p 17 := by rw [h3, a4, List.length_append]; omega
  refine b_Pa_simple_130 hp r0 r1 (zs_E hE) (x_addStep hp (zs_E hE) ⟨by omega, by omega⟩ ⟨by omega, by omega⟩ i2 ⟨by omega, by omega⟩ (fun ρ f1 gp g11 q5 q6 q7 q8 q9 => ?_))
  rw [e11, Int.toNat_natCast, u (p + 5) (by omega)] at q5
  rw [e11, Int.toNat_natCast, u (p + 6) (by omega)] at q6
  rw [e11, Int.toNat_natCast, u (p + 7) (by omega)] at q7
  rw [e11, Int.toNat_natCast, u (p + 8) (by omega), e17] at q8
  rw [e11, Int.toNat_natCast, u (p + 9) (by omega)] at q9
  have f2 : fr [p, p + 5, p + 6, p + 7, p + 8, p + 9] σ ρ := fr_trans (fr_s fr_refl (by simp)) f1
  have g7 : z ρ p 7 = (as' : Int) := by rw [gp 7 (by decide), s7]
  have gpp : ∀ k, k ≠ 7 → k ≠ 11 → z ρ p k = z σ p k := fun k k7 k11 => by rw [gp k k11, sk k k7]
  have hq2 := AI_add hp hq f2 g7 gpp h3 q5 q6 q7 q8 q9
  have hs0 : st.length = 0 → x3 = 0 := fun c => by rw [h3, List.length_eq_zero_iff.mp c]; rfl
  have hρ : PX T p σ0 ρ S.length (st.length + 1) := PX_step (S0 := 0) hp hx f2 (by rw [g7]; exact ⟨by omega, ha'⟩) gpp (by omega) q5 q6 q7 q8 q9 hb (by omega) h3b h1 h2 (fun c => absurd c (by omega)) (fun c => ⟨hs0 c, fun _ => hf17, fun c7 => absurd c7 (by omega)⟩) hf2
  obtain ⟨⟨⟨hE2, r02, r12⟩, -⟩, -⟩ := id hρ
  have ls : (st ++ [((x1, x2, 0, its) : q_St)]).length = st.length + 1 := by simp
  refine b_Pa_simple_140 hp r02 r12 hE2 (w_finish (by omega) hp ks hV (by rw [ls]; exact hρ) hq2 h4 (fun τ C' eC ht hq3 hN' h17 hA => ?_))
  rw [ls] at hN' hA
  obtain ⟨⟨⟨hE3, r03, r13⟩, -⟩, -⟩ := id ht
  refine b_Pa_simple_150 hp r03 r13 hE3 ⟨1, ⟨by decide, by decide⟩, rfl, kk τ C' eC ht hq3 ⟨fun c => absurd c (by omega), fun c => ?_⟩⟩
  have hN0 : st.length = 0 := by omega
  rw [hA 0 (by omega), q5, hN0, up_s]
  omega
theorem l_simple_77 {Kk : Int → q_H → Prop} {X : Nat → Nat → q_PR} {V t as w : Nat} {S : List q_Fr} {st : List q_St} {f : Option (Int × Nat)} {x1 x2 : Int} (hd : 6 ≤ d) (hp : p = 16 ∨ p = 29) (ks : KS T σ0) (hT : z σ0 4 T = 46) (hX : XO X (z σ0 4) (nmI p σ0) (nmB p σ0) T) (hV : z σ0 p 4 = (V : Int)) (hx : PX T p σ0 σ S.length st.length) (hq : AQ p (z σ0 5) (t, S, st, as, w, f) σ) (il : (itF st).length ≤ t) (e1 : x1 = 1 ∨ x1 = 2 ∨ x1 = 3)
    (hb : 5 * ((st.length : Int) + cn (z σ 9) S.length) + 1 ≤ 2 * z σ0 5 (z σ 2 8).toNat) (ha : x1 = 2 → 8 * (as : Int) + 6 ≤ z σ0 5 (z σ 2 8).toNat) (h1 : x1 = 1 → 0 ≤ x2 ∧ x2 < 12) (h2 : x1 = 2 → x2 = (as : Int)) (i2 : inR x2) (hB : B0 p σ st.length)
    (kx : ∀ τ x, (X S.length t = .error x ∨ ∃ e, X S.length t = .ok (x, e) ∧ z σ0 4 x ≠ 32) → PX T p σ0 τ S.length st.length → z τ 2 8 = ((x : Nat) : Int) → Kk 0 τ)
    (kk : ∀ τ C' t1 e, X S.length t = .ok (t1, e) → z σ0 4 t1 = 32 → C' = cE (z σ0 4) V (t1 + 1, S, st ++ [(x1, x2, 0, e.1)], if x1 = 2 then as + 1 else as, w, f.or (xF e)) (e.2.2.1 + 8) → PX T p σ0 τ C'.2.1.length C'.2.2.1.length → AQ p (z σ0 5) C' τ → (itF C'.2.2.1).length ≤ C'.1 → t < C'.1 → B0 p τ C'.2.2.1.length → Kk 1 τ) :
    J ω m_Pa_simple (d + 1) 0 0 0 0 77 [(0, .ref 8), (1, .int (zI x1)), (2, .int (zI x2))] [] σ (q_ki Kk) := by
  have hn := PX_N ks hx
  have hcc := PX_c hx
  obtain ⟨⟨⟨hE, r0, r1⟩, -, -, -, ⟨i1, i9, -⟩⟩, -, -, -, ⟨h7, h31, -⟩, -⟩ := id hx
  obtain ⟨a1, a2, a3, ⟨a4, a5⟩, a6, a7, a8⟩ := id hq
  dsimp only at a1 a2 a3 a4 a5 a6 a7 a8
  have zero : ∀ τ, Kk 0 τ → q_ki Kk (.inl (some (.int (zI 0)))) τ := fun τ h => ⟨0, ⟨by decide, by decide⟩, rfl, h⟩
  refine b_Pa_simple_77 hp r0 r1 hE ?_
  rw [h7]
  refine w_expr hd hp ks hT hx hX a1 a4 a5 il h31 a8 (fun τ x q ht h2 => ?_) (fun τ t1 e q ht he h2' hlt hle h17p h17 hl hil hf => ?_)
  · obtain ⟨⟨⟨hE2, r02, r12⟩, -⟩, -⟩ := id ht
    exact b_Pa_simple_93 hp r02 r12 hE2 ⟨⟨by decide, by decide⟩, fun _ => zero τ (kx τ x (Or.inl q) ht h2), fun c => absurd rfl c⟩
  have hct := PX_c ht
  obtain ⟨⟨⟨hE2, r02, r12⟩, -⟩, -⟩ := id ht
  have hqt : AI p (z σ0 5) (t1, S, st, as, w, f.or (xF e)) (itF st ++ e.1) τ := AI_EX (its := itF st) hp hq he h2' h17 hl hf
  obtain ⟨-, b9, -, -, -, -, f1, -⟩ := id he
  have t9 : z τ 9 = z σ 9 := fr_zF b9 (by simp; omega)
  have t5 : z τ (p + 5) = z σ (p + 5) := fr_zF b9 (by simp; omega)
  have hv : 0 ≤ ((min e.2.2.1 1501 : Nat) : Int) ∧ ((min e.2.2.1 1501 : Nat) : Int) ≤ 1501 := by omega
  have hcq : cpq (((min e.2.2.1 1501 : Nat) : Int) + 8) (e.2.2.1 + 8) := by unfold cpq; omega
  generalize ((min e.2.2.1 1501 : Nat) : Int) = v at hv hcq ⊢
  have bad : z σ0 4 t1 ≠ 32 → Kk 0 τ := fun c => kx τ t1 (Or.inr ⟨e, q, c⟩) ht h2'
  have k32 : z τ 4 (z τ 2 8).toNat = z σ0 4 t1 := by rw [(PX_4 hp ht).1, h2', Int.toNat_natCast]
  refine b_Pa_simple_93 hp r02 r12 hE2 ⟨⟨by omega, by omega⟩, fun c => absurd c (by omega), fun c => ?_⟩
  refine w_accept (by omega) hp ks ht ⟨by decide, by decide⟩ (by decide) (fun k => b_Pa_simple_107 hp r02 r12 hE2 ⟨⟨by decide, by decide⟩, fun c => absurd rfl c, fun _ => zero τ (bad (by rw [← k32]; exact k))⟩) (fun k π e2 hπ e3 e4 => ?_)
  · have cc : z σ0 4 t1 = 32 := k32.symm.trans k
    rw [h2'] at e2 e3 e4
    have hqp : AI p (z σ0 5) (t1 + 1, S, st, as, w, f.or (xF e)) (itF st ++ e.1) π := by
      rw [e2]; exact AI_28 (t2 := t1 + 1) hp hqt (by omega)
    obtain ⟨⟨⟨hE3, r03, r13⟩, -⟩, -⟩ := id hπ
    have p9 : z π 9 = z σ 9 := by rw [e2, z_oF (by decide), t9]
    have p17 : z π p 17 = z τ p 17 := by rw [e2, z_o (by omega)]
    have p5 : z π (p + 5) = z σ (p + 5) := by rw [e2, z_oF (by omega), t5]
    have k := KS_le ks (z σ 2 8).toNat (z π 2 8).toNat (by omega) (by omega)
    have hf2 : st.length = 1 → z π (p + 5) 0 ≠ 7 := by rw [p5]; exact hB.2
    have hb3 : 5 * ((st.length : Int) + 1 + cn (z π 9) S.length) ≤ 2 * z σ0 5 (z π 2 8).toNat := by rw [p9]; omega
    have hs512 : z σ0 5 (z π 2 8).toNat ≤ 4096 := (PX_N ks hπ).2.2.2.2
    have p7 : z π p 7 = (as : Int) := hqp.2.2.2.2.1
    have fin : ∀ τ2 C', C' = cE (z σ0 4) V (t1 + 1, S, st ++ [(x1, x2, 0, e.1)], if x1 = 2 then as + 1 else as, w, f.or (xF e)) (e.2.2.1 + 8) → PX T p σ0 τ2 C'.2.1.length C'.2.2.1.length → AQ p (z σ0 5) C' τ2 → B0 p τ2 C'.2.2.1.length → Kk 1 τ2 := fun τ2 C' eC g1 g2 g3 => by
      obtain ⟨w1, w2, -⟩ := cF_it (z σ0 4) V S (t1 + 1) (st ++ [(x1, x2, 0, e.1)]) (e.2.2.1 + 8) w
      have e1' : itF C'.2.2.1 = itF st ++ e.1 := by
        rw [eC]
        refine Eq.trans w1 ?_
        rw [itF_app]
        exact congrArg _ (List.append_nil _)
      have e2' : t1 + 1 ≤ C'.1 := by rw [eC]; exact w2
      exact kk τ2 C' t1 e q cc eC g1 g2 (by rw [e1']; omega) (by omega) g3
    refine b_Pa_simple_107 hp r03 r13 hE3 ⟨⟨by decide, by decide⟩, fun _ => ⟨⟨by omega, by omega⟩, fun c2 => ?_, fun c2 => ?_⟩, fun c => absurd c (by decide)⟩
    · rw [if_neg c2] at fin
      have := l_simple_130 (ω := ω) (x1 := x1) (x2 := x2) (x3 := z σ p 17) (x4 := v) (as' := as) (m := e.2.2.1 + 8) (by omega : 4 ≤ d) hp ks hV hπ hqp e1 hb3 h1 (fun c => absurd c c2) i2 a4 hcq (by omega) (by omega) hf2 fin
      rw [zs_self p7] at this
      exact this
    · rw [if_pos c2] at fin
      have h2 := h2 c2
      have ha := ha c2
      have := l_simple_130 (ω := ω) (x1 := x1) (x2 := x2) (x3 := z σ p 17) (x4 := v) (as' := as + 1) (m := e.2.2.1 + 8) (by omega : 4 ≤ d) hp ks hV hπ hqp e1 hb3 h1 (fun _ => ⟨by omega, by omega⟩) i2 a4 hcq (by omega) (by omega) hf2 fin
      rw [p7]
      exact this
theorem l_simple_53 {Kk : Int → q_H → Prop} {X : Nat → Nat → q_PR} {V t as w : Nat} {S : List q_Fr} {st : List q_St} {f : Option (Int × Nat)} {x1 x2 : Int} (hd : 6 ≤ d) (hp : p = 16 ∨ p = 29) (ks : KS T σ0) (hT : z σ0 4 T = 46) (hX : XO X (z σ0 4) (nmI p σ0) (nmB p σ0) T) (hV : z σ0 p 4 = (V : Int)) (hx : PX T p σ0 σ S.length st.length) (hq : AQ p (z σ0 5) (t, S, st, as, w, f) σ) (il : (itF st).length ≤ t) (e1 : x1 = 1 ∨ x1 = 2 ∨ x1 = 3) (h46 : z σ0 4 t ≠ 46) (h44 : x1 = 2 → z σ0 4 t = 44) (h1 : x1 = 1 → 0 ≤ x2 ∧ x2 < 12) (h2 : x1 = 2 → x2 = (as : Int)) (i2 : inR x2) (hB : B0 p σ st.length)
    (kx : ∀ τ x, (x1 = 1 ∧ z σ0 4 (t + 1) ≠ 31 ∧ x = t + 1) ∨ ((x1 = 1 → z σ0 4 (t + 1) = 31) ∧ (X S.length (if x1 = 1 then t + 2 else t + 1) = .error x ∨ ∃ e, X S.length (if x1 = 1 then t + 2 else t + 1) = .ok (x, e) ∧ z σ0 4 x ≠ 32)) → PX T p σ0 τ S.length st.length → z τ 2 8 = ((x : Nat) : Int) → Kk 0 τ)
    (kk : ∀ τ C' t1 e, (x1 = 1 → z σ0 4 (t + 1) = 31) → X S.length (if x1 = 1 then t + 2 else t + 1) = .ok (t1, e) → z σ0 4 t1 = 32 → C' = cE (z σ0 4) V (t1 + 1, S, st ++ [(x1, x2, 0, e.1)], if x1 = 2 then as + 1 else as, w, f.or (xF e)) (e.2.2.1 + 8) → PX T p σ0 τ C'.2.1.length C'.2.2.1.length → AQ p (z σ0 5) C' τ → (itF C'.2.2.1).length ≤ C'.1 → t < C'.1 → B0 p τ C'.2.2.1.length → Kk 1 τ) :
    J ω m_Pa_simple (d + 1) 0 0 0 0 53 [(0, .ref 8), (1, .int (zI x1))] [.int (zI x2)] σ (q_ki Kk) := by
  have hn := PX_N ks hx
  have hcc := PX_c hx
  obtain ⟨⟨⟨hE, r0, r1⟩, -⟩, -⟩ := id hx
  have k4 := (PX_4 hp hx).1
  have hT4 : T ≤ 4096 := hx.1.2.1.1
  have q1 : z σ 2 8 = (t : Int) := hq.1
  have q7 : z σ p 7 = (as : Int) := hq.2.2.2.2.1
  have et : (z σ 2 8).toNat = t := by omega
  refine b_Pa_simple_53 hp r0 r1 hE (y_adv hp ks hx (fun τ c e ht e2 e3 e4 e5 => ?_))
  have e6 := e5 (by rw [k4, et]; exact h46)
  have ec0 : c = ((t + 1 : Nat) : Int) := by omega
  have t9 : z τ 9 = z σ 9 := by rw [e, z_oF (by decide)]
  have hqt : AQ p (z σ0 5) (t + 1, S, st, as, w, f) τ := by rw [e, ec0]; exact AI_28 (t2 := t + 1) (its := itF st) hp hq (by omega)
  have a := ks.1 (z σ 2 8).toNat (by omega)
  have kp := kl_pos (z σ0 4 (z σ 2 8).toNat)
  have ec : (z τ 2 8).toNat = (z σ 2 8).toNat + 1 := by omega
  have hb1 : 5 * ((st.length : Int) + cn (z τ 9) S.length) + 1 ≤ 2 * z σ0 5 (z τ 2 8).toNat := by rw [t9, ec]; omega
  have ha1 : x1 = 2 → 8 * (as : Int) + 6 ≤ z σ0 5 (z τ 2 8).toNat := fun c2 => by
    have k6 : kl (z σ0 4 (z σ 2 8).toNat) = 6 := by rw [et, h44 c2]; rfl
    rw [ec]; omega
  have hBt : B0 p τ st.length := by rw [e]; exact ⟨fun c => (z_o (by omega)).trans (hB.1 c), fun c => by rw [z_o (by omega)]; exact hB.2 c⟩
  obtain ⟨⟨⟨hE2, r02, r12⟩, -⟩, -⟩ := id ht
  have k31 : z τ 4 (z τ 2 8).toNat = z σ0 4 (t + 1) := by rw [(PX_4 hp ht).1, e2, ec0, Int.toNat_natCast]
  refine b_Pa_simple_61 hp r02 r12 hE2 ⟨⟨by omega, by omega⟩, fun c1 => ?_, fun c1 => w_accept (by omega) hp ks ht ⟨by decide, by decide⟩ (by decide) (fun k => ?_) (fun k π f1 hπ f2 f3 => ?_)⟩
  · rw [if_neg c1] at kx kk
    exact l_simple_77 hd hp ks hT hX hV ht hqt (by omega) e1 hb1 ha1 h1 h2 i2 hBt (fun τ2 x q g1 g2 => kx τ2 x (Or.inr ⟨fun c => absurd c c1, q⟩) g1 g2) (fun τ2 C' t1 e' q g1 g2 g3 g4 g5 g6 g7 => kk τ2 C' t1 e' (fun c => absurd c c1) q g1 g2 g3 g4 g5 (by omega) g7)
  · exact b_Pa_simple_72 hp r02 r12 hE2 ⟨⟨by decide, by decide⟩, fun c => absurd rfl c, fun _ => ⟨0, ⟨by decide, by decide⟩, rfl, kx τ (t + 1) (Or.inl ⟨c1, by rw [← k31]; exact k, rfl⟩) ht (e2.trans ec0)⟩⟩
  · rw [k31] at k
    rw [if_pos c1] at kx kk
    rw [e2, ec0] at f1 f2 f3
    have ec2 : ((t + 1 : Nat) : Int) + 1 = ((t + 2 : Nat) : Int) := by omega
    rw [ec2] at f1 f2
    have hBp : B0 p π st.length := by rw [f1]; exact ⟨fun c => (z_o (by omega)).trans (hBt.1 c), fun c => by rw [z_o (by omega)]; exact hBt.2 c⟩
    have hqp : AQ p (z σ0 5) (t + 2, S, st, as, w, f) π := by rw [f1]; exact AI_28 (t2 := t + 2) (its := itF st) hp hqt (by omega)
    obtain ⟨⟨⟨hE3, r03, r13⟩, -⟩, -⟩ := id hπ
    have p9 : z π 9 = z τ 9 := by rw [f1, z_oF (by decide)]
    have kq := KS_le ks (z τ 2 8).toNat (z π 2 8).toNat (by omega) (by omega)
    exact b_Pa_simple_72 hp r03 r13 hE3 ⟨⟨by decide, by decide⟩, fun _ => l_simple_77 hd hp ks hT hX hV hπ hqp (by omega) e1 (by rw [p9]; omega) (fun c => absurd c (by omega)) h1 (fun c => absurd c (by omega)) i2 hBp (fun τ2 x q g1 g2 => kx τ2 x (Or.inr ⟨fun _ => k, q⟩) g1 g2) (fun τ2 C' t1 e' q g1 g2 g3 g4 g5 g6 g7 => kk τ2 C' t1 e' (fun _ => k) q g1 g2 g3 g4 g5 (by omega) g7), fun c => absurd c (by decide)⟩
/-- a setting or a claim -/
theorem w_simple {Kk : Int → q_H → Prop} {X : Nat → Nat → q_PR} {V t as w : Nat} {S : List q_Fr} {st : List q_St} {f : Option (Int × Nat)} (hd : 7 ≤ d) (hp : p = 16 ∨ p = 29) (ks : KS T σ0) (hT : z σ0 4 T = 46) (hX : XO X (z σ0 4) (nmI p σ0) (nmB p σ0) T) (hV : z σ0 p 4 = (V : Int)) (hx : PX T p σ0 σ S.length st.length) (hq : AQ p (z σ0 5) (t, S, st, as, w, f) σ) (il : (itF st).length ≤ t) (h30 : S.length ≤ 30) (hk : z σ0 4 t = 30 ∨ z σ0 4 t = 44 ∨ z σ0 4 t = 45) (hB : B0 p σ st.length)
    (kx : ∀ τ x, (∀ m, cS X (z σ0 4) (nmI p σ0) (nmB p σ0) V (m + 1) (t, S, st, as, w, f) = some (.error x)) → PX T p σ0 τ S.length st.length → z τ 2 8 = ((x : Nat) : Int) → Kk 0 τ)
    (kk : ∀ τ C', (∀ m, cS X (z σ0 4) (nmI p σ0) (nmB p σ0) V (m + 1) (t, S, st, as, w, f) = cS X (z σ0 4) (nmI p σ0) (nmB p σ0) V m C') → PX T p σ0 τ C'.2.1.length C'.2.2.1.length → AQ p (z σ0 5) C' τ → (itF C'.2.2.1).length ≤ C'.1 → t < C'.1 → B0 p τ C'.2.2.1.length → Kk 1 τ) : J ω m_Pa_simple d 0 0 0 0 0 [(0, .ref 8)] [] σ (q_ki Kk) := by
  obtain ⟨d, rfl⟩ : ∃ k, d = k + 1 := ⟨d - 1, by omega⟩
  have hcc := PX_c hx
  obtain ⟨⟨⟨hE, r0, r1⟩, -⟩, -⟩ := id hx
  have k4 := (PX_4 hp hx).1
  have q1 : z σ 2 8 = (t : Int) := hq.1
  have q7 : z σ p 7 = (as : Int) := hq.2.2.2.2.1
  have et : z σ 4 (z σ 2 8).toNat = z σ0 4 t := by rw [k4, q1, Int.toNat_natCast]
  have d0 : ¬ (30 < S.length ∧ z σ0 4 t ≠ 38) := fun q => by omega
  have h46 : z σ0 4 t ≠ 46 := by omega
  have bC : ∀ {r : q_PR} {x : Nat} {g : Nat → q_Ex → Option (Except Nat q_Cs)}, r = .error x → bnC r g = some (.error x) := fun h => by rw [h]; rfl
  have bO : ∀ {r : q_PR} {x : Nat} {e : q_Ex} {g : Nat → q_Ex → Option (Except Nat q_Cs)}, r = .ok (x, e) → bnC r g = g x e := fun h => by rw [h]; rfl
  -- what the claims come to
  have cl : ∀ x1 : Int, (x1 = 2 ∧ z σ0 4 t = 44) ∨ (x1 = 3 ∧ z σ0 4 t = 45) → J ω m_Pa_simple (d + 1) 0 0 0 0 53 [(0, .ref 8), (1, .int (zI x1))] [.int (zI (z σ p 7))] σ (q_ki Kk) := by
    intro x1 hx1
    have c1 : ¬ z σ0 4 t = 30 := by omega
    have n1 : x1 ≠ 1 := by omega
    have u : ∀ m, cS X (z σ0 4) (nmI p σ0) (nmB p σ0) V (m + 1) (t, S, st, as, w, f) = bnC (X S.length (t + 1)) (fun t1 e => if z σ0 4 t1 = 32 then cS X (z σ0 4) (nmI p σ0) (nmB p σ0) V m (cE (z σ0 4) V (t1 + 1, S, st ++ [(if z σ0 4 t = 44 then 2 else 3, (as : Int), 0, e.1)], if z σ0 4 t = 44 then as + 1 else as, w, f.or (xF e)) (e.2.2.1 + 8)) else some (.error t1)) := fun m => by rw [cS_s, if_neg d0, if_neg c1, if_pos (by omega)]
    have eif : (if z σ0 4 t = 44 then (2 : Int) else 3) = x1 := by split <;> omega
    have eif2 : (if z σ0 4 t = 44 then as + 1 else as) = (if x1 = 2 then as + 1 else as) := by split <;> split <;> omega
    rw [eif, eif2] at u
    rw [q7]
    refine l_simple_53 (by omega) hp ks hT hX hV hx hq il (by omega) h46 (by omega) (fun c => absurd c n1) (fun _ => rfl) ⟨by omega, by have := (PX_N ks hx).2.2.2; omega⟩ hB (fun τ x h ht h2 => ?_) (fun τ C' t1 e _ q g1 g2 g3 g4 g5 g6 g7 => ?_)
    · rw [if_neg n1] at h
      refine kx τ x (fun m => ?_) ht h2
      rw [u]
      rcases h with h | ⟨-, h | ⟨e, h, h3⟩⟩
      · exact absurd h.1 n1
      · exact bC h
      · rw [bO h, if_neg h3]
    · rw [if_neg n1] at q
      refine kk τ C' (fun m => ?_) g3 g4 g5 g6 g7
      rw [u, bO q, if_pos g1, ← g2]
  refine b_Pa_simple_0 hp r0 r1 hE ⟨⟨by omega, by omega⟩, fun c => ⟨fun c2 => ?_, fun c44 => ?_⟩, fun c => ?_⟩
  · rw [et] at c c2
    exact b_Pa_simple_33 hp r0 r1 hE ⟨⟨by decide, by decide⟩, fun _ => cl 3 (by omega), fun c => absurd c (by decide)⟩
  · rw [et] at c44
    exact b_Pa_simple_33 hp r0 r1 hE ⟨⟨by decide, by decide⟩, fun _ => cl 2 (Or.inl ⟨rfl, c44⟩), fun c => absurd c (by decide)⟩
  · rw [et] at c
    refine b_Pa_simple_33 hp r0 r1 hE ⟨⟨by decide, by decide⟩, fun c => absurd rfl c, fun _ => w_target (by omega) hp hx hq c (fun τ ht hqt e5 hv => ?_)⟩
    obtain ⟨⟨⟨hE2, r02, r12⟩, -⟩, -⟩ := id ht
    have u : ∀ m, cS X (z σ0 4) (nmI p σ0) (nmB p σ0) V (m + 1) (t, S, st, as, w, f) = if z σ0 4 (t + 1) = 31 then bnC (X S.length (t + 2)) (fun t1 e => if z σ0 4 t1 = 32 then cS X (z σ0 4) (nmI p σ0) (nmB p σ0) V m (cE (z σ0 4) V (t1 + 1, S, st ++ [(1, tgV (nmI p σ0) t, 0, e.1)], as, w, (f.or (tgF (nmI p σ0) (nmB p σ0) t)).or (xF e)) (e.2.2.1 + 8)) else some (.error t1))
      else some (.error (t + 1)) := fun m => by rw [cS_s, if_neg d0, if_pos c]
    have t17 : z τ p 17 = z σ p 17 := by
      have a4 : z τ p 17 = ((itF st).length : Int) := hqt.2.2.2.1.1
      have b4 : z σ p 17 = ((itF st).length : Int) := hq.2.2.2.1.1
      rw [a4, b4]
    refine b_Pa_simple_43 hp r02 r12 hE2 (l_simple_53 (by omega) hp ks hT hX hV ht hqt il (Or.inl rfl) h46 (fun c => absurd c (by decide)) (fun _ => hv) (fun c => absurd c (by decide)) ⟨by omega, by omega⟩ ⟨fun c => t17.trans (hB.1 c), fun c => by rw [e5]; exact hB.2 c⟩ (fun τ x h ht h2 => ?_) (fun τ C' t1 e k31 q g1 g2 g3 g4 g5 g6 g7 => ?_))
    · rw [if_pos rfl] at h
      refine kx τ x (fun m => ?_) ht h2
      rw [u]
      rcases h with h | ⟨k31, h | ⟨e, h, h3⟩⟩
      · rw [if_neg h.2.1, h.2.2]
      · rw [if_pos (k31 rfl)]; exact bC h
      · rw [if_pos (k31 rfl), bO h, if_neg h3]
    · rw [if_pos rfl] at q
      rw [if_neg (by decide)] at g2
      refine kk τ C' (fun m => ?_) g3 g4 g5 g6 g7
      rw [u, if_pos (k31 rfl), bO q, if_pos g1, ← g2]
end AgP
