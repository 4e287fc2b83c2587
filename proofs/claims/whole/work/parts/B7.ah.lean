/-! THE CLASS READS STATEMENTS: if, while, blocks -/
section AhP
variable {ω : q_W} {d T p h N : Nat} {σ0 σ ρ : q_H}
theorem AQ_enter {P : Nat → Int} {t as w tu e : Nat} {S : List q_Fr} {st : List q_St} {f : Option (Int × Nat)} {kd r x4 : Int} {ξ : q_H} (hp : p = 16 ∨ p = 29) (hq : AQ p P (t, S, st, as, w, f) ρ) (hh : h = S.length) (f2 : fr [8, 9, 10, 11, 12, 13] ρ ξ) (y9 : z ξ 9 = up (z ρ 9) h kd) (y10 : z ξ 10 = up (z ρ 10) h (tu : Int)) (y11 : z ξ 11 = up (z ρ 11) h r) (y12 : z ξ 12 = up (z ρ 12) h x4) (y13 : z ξ 13 = up (z ρ 13) h 0) (hx4 : x4 = ((min e 1501 : Nat) : Int)) : AQ p P (t, (kd, tu, r, e, 0) :: S, st, as, w, f) ξ := by
  obtain ⟨a1, a2, a3, ⟨a4, a5⟩, a6, a7, a8⟩ := hq
  dsimp only at a1 a2 a3 a4 a5 a6 a7 a8
  have o : ∀ a, a ∉ [8, 9, 10, 11, 12, 13] → z ξ a = z ρ a := fun a h => fr_zF f2 h
  unfold AQ
  dsimp only
  rw [o 2 (by simp), o p (by simp; omega), o (p + 5) (by simp; omega), o (p + 6) (by simp; omega), o (p + 7) (by simp; omega), o (p + 8) (by simp; omega), o (p + 9) (by simp; omega), o (p + 10) (by simp; omega), o (p + 11) (by simp; omega), o (p + 12) (by simp; omega), y9, y10, y11, y12, y13, hh, hx4]
  exact ⟨a1, frF_up (i := 0) a2, a3, ⟨a4, a5⟩, a6, a7, a8⟩
theorem w_loopNumber {Kk : Int → q_H → Prop} {t as w : Nat} {S : List q_Fr} {st : List q_St} {f : Option (Int × Nat)} {x1 : Int} (hd : 2 ≤ d) (hp : p = 16 ∨ p = 29) (ks : KS T σ0) (hx : PX T p σ0 σ S.length st.length) (hq : AQ p (z σ0 5) (t, S, st, as, w, f) σ) (i1 : inR x1) (hb : 5 * ((st.length : Int) + cn (z σ 9) S.length) + 3 ≤ 2 * z σ0 5 (z σ 2 8).toNat)
    (hB : B0 p σ st.length) (k0 : z σ0 4 t ≠ 23 → Kk 0 σ) (kk : z σ0 4 t = 23 → ∀ τ, PX T p σ0 τ S.length (st.length + 1) → AQ p (z σ0 5) (t + 1, S, st ++ [(7, x1, (lpS S : Int), [])], as, w, f.or (lpF x1 t)) τ → z τ 9 = z σ 9 → t + 1 ≤ T → Kk 1 τ) : J ω m_Pa_loopNumber d 0 0 0 0 0 [(0, .ref 8), (1, .int (zI x1))] [] σ (q_ki Kk) := by
  obtain ⟨d, rfl⟩ : ∃ k, d = k + 1 := ⟨d - 1, by omega⟩
  have hcc := PX_c hx
  have hT4 : T ≤ 4096 := hx.1.2.1.1
  obtain ⟨⟨⟨hE, r0, r1⟩, -⟩, -⟩ := id hx
  have q1 : z σ 2 8 = (t : Int) := hq.1
  have q17 : z σ p 17 = ((itF st).length : Int) := hq.2.2.2.1.1
  have k4 : z σ 4 (z σ 2 8).toNat = z σ0 4 t := by rw [(PX_4 hp hx).1, q1, Int.toNat_natCast]
  have k5 : z σ 5 (z σ 2 8).toNat = z σ0 5 t := by rw [(PX_4 hp hx).2, q1, Int.toNat_natCast]
  refine b_Pa_loopNumber_0 hp r0 r1 hE ⟨⟨by omega, by omega⟩, w_accept (by omega) hp ks hx ⟨by decide, by decide⟩ (by decide) (fun k => b_Pa_loopNumber_14 hp r0 r1 hE ⟨⟨by decide, by decide⟩, fun c => absurd rfl c, fun _ => ⟨0, ⟨by decide, by decide⟩, rfl, k0 (by rw [← k4]; exact k)⟩⟩) (fun k23 τ e ht e2 e3 => ?_)⟩
  rw [k4] at k23
  rw [q1] at e e2 e3
  rw [show ((t : Int) + 1) = ((t + 1 : Nat) : Int) by omega] at e e2 e3
  have hqt : AQ p (z σ0 5) (t + 1, S, st, as, w, f) τ := by rw [e]; exact AI_28 (t2 := t + 1) (its := itF st) hp hq (by omega)
  have go : ∀ π f2, PX T p σ0 π S.length st.length → AQ p (z σ0 5) (t + 1, S, st, as, w, f2) π → f2 = f.or (lpF x1 t) → z π 9 = z σ 9 → z π (p + 5) = z σ (p + 5) → J ω m_Pa_loopNumber (d + 1) 0 0 0 0 34 [(0, .ref 8), (1, .int (zI x1))] [] π (q_ki Kk) := by
    intro π f2 hπ hqp ef p9 p5
    have hn := PX_N ks hπ
    have p2 : z π 2 8 = ((t + 1 : Nat) : Int) := hqp.1
    have p17 : z π p 17 = ((itF st).length : Int) := hqp.2.2.2.1.1
    have p7 : z π p 7 = (as : Int) := hqp.2.2.2.2.1
    have plp := cb_lp S hqp.2.1
    obtain ⟨⟨⟨hE3, r03, r13⟩, -, -, -, ⟨i17, i18, -⟩⟩, -, -, -, ⟨h7, h31, h8⟩, hN, hw, hs⟩ := id hπ
    have eN : (z π p 11).toNat = st.length := by omega
    have hcb := cb_bd (z π 9) S.length
    refine b_Pa_loopNumber_34 hp r03 r13 hE3 (x_addStep hp hE3 ⟨by omega, by omega⟩ ⟨by decide, by decide⟩ i1 (z_R _ _ _) (fun ρ f3 gp g11 q5 q6 q7 q8 q9 => ?_))
    rw [eN] at q5 q6 q7 q8 q9
    refine b_Pa_loopNumber_51 hp (by rw [fr_r f3]; exact r03) (by rw [fr_r f3]; exact r13) (fr_E f3 hE3) ⟨⟨by omega, by omega⟩, 1, ⟨by decide, by decide⟩, rfl, ?_⟩
    have o8 : z ρ 8 8 = z π 8 8 := by rw [fr_zF f3 (by simp; omega)]
    have u : ∀ a, a ≠ p + 9 → z (zs ρ (p + 9) (z π p 11).toNat (z ρ 8 8)) a = z ρ a := fun a h => z_oF h
    have k := KS_le ks t (t + 1) (by omega) (by omega)
    have hb' : 5 * ((st.length : Int) + cn (z σ 9) S.length) + 3 ≤ 2 * z σ0 5 t := by rw [q1, Int.toNat_natCast] at hb; exact hb
    have g9 : z (zs ρ (p + 9) (z π p 11).toNat (z ρ 8 8)) (p + 9) = up (z π (p + 9)) st.length (z ρ 8 8) := by rw [z_up (z_R _ _ _), q9, eN, up_up]
    have fr3 : fr [p, p + 5, p + 6, p + 7, p + 8, p + 9] π (zs ρ (p + 9) (z π p 11).toNat (z ρ 8 8)) := fr_s f3 (by simp)
    have gpp : ∀ k, k ≠ 7 → k ≠ 11 → z (zs ρ (p + 9) (z π p 11).toNat (z ρ 8 8)) p k = z π p k := fun k k7 k11 => by rw [u p (by omega), gp k k11]
    have g7 : z (zs ρ (p + 9) (z π p 11).toNat (z ρ 8 8)) p 7 = (as : Int) := by rw [u p (by omega), gp 7 (by decide)]; exact p7
    have s5 := q5
    have hqz := AI_add (its := []) (x3 := z π p 17) hp (by rw [List.append_nil]; exact hqp) fr3 g7 gpp p17 (by rw [u _ (by omega)]; exact q5) (by rw [u _ (by omega)]; exact q6) (by rw [u _ (by omega)]; exact q7) (by rw [u _ (by omega)]; exact q8) g9
    rw [o8, h8, plp, ef] at hqz
    have i0 : st.length = 0 → z π p 17 = 0 := fun c => by rw [p17, List.length_eq_zero_iff.mp c]; rfl
    refine kk k23 _ (PX_step (S0 := 0) (g := z ρ 8 8) hp hπ fr3 ?_ gpp (by rw [u p (by omega)]; omega) (by rw [u _ (by omega)]; exact q5) (by rw [u _ (by omega)]; exact q6) (by rw [u _ (by omega)]; exact q7) (by rw [u _ (by omega)]; exact q8) g9 (by rw [p9, p2, Int.toNat_natCast]; omega) (by decide) ⟨i17, Int.le_refl _⟩ (fun c => absurd c (by decide)) (fun c => absurd c (by decide)) (fun _ => by omega) (fun c => ⟨i0 c, fun c7 => absurd rfl c7, fun _ => i0 c⟩) (fun c => by rw [p5]; exact hB.2 c)) ?_ ?_ (by omega)
    · rw [g7, p2, Int.toNat_natCast]; rw [p2, Int.toNat_natCast] at hn; omega
    · rw [o8, h8, plp]; exact hqz
    · rw [u 9 (by omega), fr_zF f3 (by simp; omega)]; exact p9
  have t9 : z τ 9 = z σ 9 := by rw [e, z_oF (by decide)]
  have t5 : z τ (p + 5) = z σ (p + 5) := by rw [e, z_oF (by omega)]
  obtain ⟨⟨⟨hE2, r02, r12⟩, -⟩, -⟩ := id ht
  rw [k5]
  have nn := AQ_note (k := 5) (x := t) hp hqt (by decide) ⟨by decide, by decide⟩ (z_R _ _ _)
  refine b_Pa_loopNumber_14 hp r02 r12 hE2 ⟨⟨by decide, by decide⟩, fun _ => ⟨i1, fun c => go τ f ht hqt (by unfold lpF; rw [if_neg (by omega), Option.or_none]) t9 t5, fun c => f_note hp hE2 (fun c2 => go τ _ ht (nn.1 c2) (by unfold lpF; rw [if_pos c]) t9 t5) (fun c2 => go _ _ (PX_note hp ht) (nn.2 c2) (by unfold lpF; rw [if_pos c]) ?_ ?_)⟩, fun c => absurd c (by decide)⟩
  · rw [z_oF (by omega), z_oF (by omega)]; exact t9
  · rw [z_oF (by omega), z_oF (by omega)]; exact t5
theorem l_fork_88a {Kk : Int → q_H → Prop} {t as w e : Nat} {S : List q_Fr} {st : List q_St} {f : Option (Int × Nat)} {its : List q_It} {x2 x3 x4 : Int} {κ : q_H} (hd : 2 ≤ d) (hp : p = 16 ∨ p = 29) (ks : KS T σ0) (hκ : PX T p σ0 κ S.length st.length) (hqk : AI p (z σ0 5) (t, S, st, as, w, f) (itF st ++ its) κ) (il : (itF st ++ its).length ≤ t) (h30 : S.length ≤ 30) (hb3 : 5 * ((st.length : Int) + 2 + cn (z κ 9) S.length) ≤ 2 * z σ0 5 (z κ 2 8).toNat) (h17 : 1 ≤ z κ p 17) (h3 : x3 = ((itF st).length : Int)) (h4 : x4 = ((min e 1501 : Nat) : Int)) (hB2 : st.length = 1 → z κ (p + 5) 0 ≠ 7)
    (kk : ∀ τ C', C' = (t, (2, st.length, 0, e, 0) :: S, st ++ [(4, 0, 0, its)], as, w, f) → PX T p σ0 τ C'.2.1.length C'.2.2.1.length → AQ p (z σ0 5) C' τ → (itF C'.2.2.1).length ≤ C'.1 → B0 p τ C'.2.2.1.length → Kk 1 τ) : J ω m_Pa_fork (d + 1) 0 0 0 0 88 [(0, .ref 8), (1, .int (zI 0)), (2, .int (zI x2)), (3, .int (zI x3)), (4, .int (zI x4))] [.int (zI 1)] κ (q_ki Kk) := by
  have hn := PX_N ks hκ
  have plp := cb_lp S hqk.2.1
  have p7 : z κ p 7 = (as : Int) := hqk.2.2.2.2.1
  obtain ⟨⟨⟨hE4, r04, r14⟩, -, -, -, ⟨l1, l9, -⟩⟩, -, -, -, ⟨h7, h31, h8⟩, hN, -, -⟩ := id hκ
  have eN : (z κ p 11).toNat = st.length := by omega
  have hcb := cb_bd (z κ 9) S.length
  have f17 : z κ p 17 = (((itF st ++ its).length : Nat) : Int) := hqk.2.2.2.1.1
  have h3b : 0 ≤ x3 ∧ x3 ≤ z κ p 17 := by rw [h3, f17, List.length_append]; omega
  have h4b : 0 ≤ x4 ∧ x4 ≤ 1501 := by omega
  have h3R : inR x3 := ⟨by omega, by omega⟩
  have h4R : inR x4 := ⟨by omega, by omega⟩
  have hN2 : 0 ≤ z κ p 11 ∧ z κ p 11 < 2048 := by omega
  have hs0 : st.length = 0 → x3 = 0 := fun c => by rw [h3, List.length_eq_zero_iff.mp c]; rfl
  have itl : ∀ y : q_St, y.2.2.2 = its → (itF (st ++ [y])).length ≤ t := fun y hy => by
    rw [itF_app]
    have e : itF [y] = its := by rw [← hy]; exact List.append_nil _
    rw [e]; exact il
  refine b_Pa_fork_88 hp r04 r14 hE4 ⟨⟨by decide, by decide⟩, fun _ => ⟨⟨by decide, by decide⟩, fun _ => ?_, fun c1 => absurd rfl c1⟩, fun c => absurd c (by decide)⟩
  refine x_addStep hp hE4 hN2 ⟨by decide, by decide⟩ ⟨by decide, by decide⟩ h3R (fun ρ f gp g11 q5 q6 q7 q8 q9 => ?_)
  rw [eN] at q5 q6 q7 q8 q9
  have fE := fr_E f hE4
  have s0 : q_r ρ 8 0 = 2 := by rw [fr_r f]; exact r04
  have s1 : q_r ρ 8 1 = p := by rw [fr_r f]; exact r14
  have o8 : z ρ 8 = z κ 8 := fr_zF f (by simp; omega)
  have hqr := AI_add hp hqk f (by rw [gp 7 (by decide)]; exact p7) (fun k _ k11 => gp k k11) h3 q5 q6 q7 q8 q9
  refine b_Pa_fork_144 hp s0 s1 fE (x_enter (h := S.length) hp fE s0 s1 (by rw [o8]; exact h7) (by omega) ⟨by decide, by decide⟩ (z_R _ _ _) ⟨by decide, by decide⟩ h4R (fun ξ f2 y7 y8 y9 y10 y11 y12 y13 => ?_))
  rw [hN] at y10
  have hξ : PX T p σ0 ξ (S.length + 1) (st.length + 1) := by
    refine PX_open hp hκ f gp (by rw [g11, hN]) q5 q6 q7 q8 q9 f2 y7 ?_ y9 y10 y11 y12 y13 hb3 h30 (Or.inl ⟨rfl, rfl⟩) h3b (fun c => absurd c (by decide)) ⟨by decide, by decide⟩ h4b (fun c => ⟨rfl, hs0 c, h17⟩) (fun c c7 => absurd c7 (hB2 c))
    rw [y8, o8, h8]
    show _ = cb (up (z κ 9) S.length 2) S.length + (if up (z κ 9) S.length 2 S.length = 4 then 1 else 0)
    rw [cb_up S.length (Nat.le_refl _), up_s, if_neg (by decide)]; exact (Int.add_zero _).symm
  have hqx := AQ_enter (e := e) hp hqr rfl f2 y9 y10 y11 y12 y13 h4
  have ls : (st ++ [((4, 0, 0, its) : q_St)]).length = st.length + 1 := List.length_append
  obtain ⟨⟨⟨hE5, r05, r15⟩, -⟩, -⟩ := id hξ
  have hA0 : st.length = 0 → z ξ (p + 5) 0 ≠ 7 := fun c => by
    rw [fr_zF f2 (by simp; omega), q5, c, up_s]; decide
  refine b_Pa_fork_150 hp r05 r15 hE5 ⟨1, ⟨by decide, by decide⟩, rfl, kk ξ _ rfl ?_ hqx (itl _ rfl) ?_⟩
  · show PX T p σ0 ξ (S.length + 1) (st ++ [((4, 0, 0, its) : q_St)]).length
    rw [ls]; exact hξ
  · show B0 p ξ (st ++ [((4, 0, 0, its) : q_St)]).length
    rw [ls]
    exact ⟨fun c => absurd c (by omega), fun c => hA0 (by omega)⟩
theorem l_fork_88b {Kk : Int → q_H → Prop} {t as w e : Nat} {S : List q_Fr} {st : List q_St} {f : Option (Int × Nat)} {its : List q_It} {x2 x3 x4 : Int} {κ : q_H} (hd : 2 ≤ d) (hp : p = 16 ∨ p = 29) (ks : KS T σ0) (hκ : PX T p σ0 κ S.length st.length) (hqk : AI p (z σ0 5) (t, S, st, as, w, f) (itF st ++ its) κ) (il : (itF st ++ its).length ≤ t) (h30 : S.length ≤ 30) (hb3 : 5 * ((st.length : Int) + 2 + cn (z κ 9) S.length) ≤ 2 * z σ0 5 (z κ 2 8).toNat) (h17 : 1 ≤ z κ p 17) (h3 : x3 = ((itF st).length : Int)) (h4 : x4 = ((min e 1501 : Nat) : Int)) (e2 : 0 ≤ x2 ∧ x2 ≤ 255) (hN1 : 1 ≤ st.length) (hB2 : st.length = 1 → z κ (p + 5) 0 = 7 → x3 = 0)
    (kk : ∀ τ C', C' = (t, (4, st.length, x2, e, 0) :: S, st ++ [(8, (lpS S : Int), 0, its)], as, w, f) → PX T p σ0 τ C'.2.1.length C'.2.2.1.length → AQ p (z σ0 5) C' τ → (itF C'.2.2.1).length ≤ C'.1 → B0 p τ C'.2.2.1.length → Kk 1 τ) : J ω m_Pa_fork (d + 1) 0 0 0 0 88 [(0, .ref 8), (1, .int (zI 1)), (2, .int (zI x2)), (3, .int (zI x3)), (4, .int (zI x4))] [.int (zI 1)] κ (q_ki Kk) := by
  have hn := PX_N ks hκ
  have plp := cb_lp S hqk.2.1
  have p7 : z κ p 7 = (as : Int) := hqk.2.2.2.2.1
  obtain ⟨⟨⟨hE4, r04, r14⟩, -, -, -, ⟨l1, l9, -⟩⟩, -, -, -, ⟨h7, h31, h8⟩, hN, -, -⟩ := id hκ
  have eN : (z κ p 11).toNat = st.length := by omega
  have hcb := cb_bd (z κ 9) S.length
  have f17 : z κ p 17 = (((itF st ++ its).length : Nat) : Int) := hqk.2.2.2.1.1
  have h3b : 0 ≤ x3 ∧ x3 ≤ z κ p 17 := by rw [h3, f17, List.length_append]; omega
  have h4b : 0 ≤ x4 ∧ x4 ≤ 1501 := by omega
  have h3R : inR x3 := ⟨by omega, by omega⟩
  have h4R : inR x4 := ⟨by omega, by omega⟩
  have hN2 : 0 ≤ z κ p 11 ∧ z κ p 11 < 2048 := by omega
  have hs0 : st.length = 0 → x3 = 0 := fun c => by rw [h3, List.length_eq_zero_iff.mp c]; rfl
  have itl : ∀ y : q_St, y.2.2.2 = its → (itF (st ++ [y])).length ≤ t := fun y hy => by
    rw [itF_app]
    have e : itF [y] = its := by rw [← hy]; exact List.append_nil _
    rw [e]; exact il
  refine b_Pa_fork_88 hp r04 r14 hE4 ⟨⟨by decide, by decide⟩, fun _ => ⟨⟨by decide, by decide⟩, fun c0 => absurd c0 (by decide), fun _ => ?_⟩, fun c => absurd c (by decide)⟩
  refine x_addStep hp hE4 hN2 ⟨by decide, by decide⟩ (z_R _ _ _) h3R (fun ρ f gp g11 q5 q6 q7 q8 q9 => ?_)
  rw [eN] at q5 q6 q7 q8 q9
  have fE := fr_E f hE4
  have s0 : q_r ρ 8 0 = 2 := by rw [fr_r f]; exact r04
  have s1 : q_r ρ 8 1 = p := by rw [fr_r f]; exact r14
  have o8 : z ρ 8 = z κ 8 := fr_zF f (by simp; omega)
  have hqr := AI_add hp hqk f (by rw [gp 7 (by decide)]; exact p7) (fun k _ k11 => gp k k11) h3 q5 q6 q7 q8 q9
  rw [h8, plp] at hqr
  refine b_Pa_fork_113 hp s0 s1 fE (x_enter (h := S.length) hp fE s0 s1 (by rw [o8]; exact h7) (by omega) ⟨by decide, by decide⟩ (z_R _ _ _) ⟨by omega, by omega⟩ h4R (fun ξ f2 y7 y8 y9 y10 y11 y12 y13 => ?_))
  rw [hN] at y10
  have E5 : q_E ξ := fr_E f2 fE
  refine b_Pa_fork_119 hp (by rw [fr_r f2]; exact s0) (by rw [fr_r f2]; exact s1) E5 ⟨1, ⟨by decide, by decide⟩, rfl, ?_⟩
  have u : ∀ a, a ≠ 8 → z (zs ξ 8 8 (z ξ 8 8 + 1)) a = z ξ a := fun a h => z_oF h
  have fx : fr [8, 9, 10, 11, 12, 13] ρ (zs ξ 8 8 (z ξ 8 8 + 1)) := fr_s f2 (by simp)
  have e88 : z ξ 8 8 = cb (z κ 9) S.length := by rw [y8, o8, h8]
  have hξ : PX T p σ0 (zs ξ 8 8 (z ξ 8 8 + 1)) (S.length + 1) (st.length + 1) := by
    refine PX_open (kd := 4) hp hκ f gp (by rw [g11, hN]) q5 q6 q7 q8 q9 fx (by rw [z_k (by decide)]; exact y7) ?_ (by rw [u 9 (by decide)]; exact y9) (by rw [u 10 (by decide)]; exact y10) (by rw [u 11 (by decide)]; exact y11) (by rw [u 12 (by decide)]; exact y12) (by rw [u 13 (by decide)]; exact y13) hb3 h30 (Or.inr ⟨rfl, rfl⟩) h3b (fun _ => by omega) e2 h4b (fun c => absurd c (by omega)) (fun c c7 => ⟨rfl, hB2 c c7, h17⟩)
    rw [z_s ⟨by omega, by omega⟩, e88]
    show _ = cb (up (z κ 9) S.length 4) S.length + (if up (z κ 9) S.length 4 S.length = 4 then 1 else 0)
    rw [cb_up S.length (Nat.le_refl _), up_s, if_pos rfl]
  have hqx := AQ_enter (e := e) hp hqr rfl fx (by rw [u 9 (by decide)]; exact y9) (by rw [u 10 (by decide)]; exact y10) (by rw [u 11 (by decide)]; exact y11) (by rw [u 12 (by decide)]; exact y12) (by rw [u 13 (by decide)]; exact y13) h4
  have ls : (st ++ [((8, (lpS S : Int), 0, its) : q_St)]).length = st.length + 1 := List.length_append
  refine kk _ _ rfl ?_ hqx (itl _ rfl) ?_
  · show PX T p σ0 _ (S.length + 1) (st ++ [((8, (lpS S : Int), 0, its) : q_St)]).length
    rw [ls]; exact hξ
  · show B0 p _ (st ++ [((8, (lpS S : Int), 0, its) : q_St)]).length
    rw [ls]
    exact ⟨fun c => absurd c (by omega), fun c => absurd c (by omega)⟩
theorem l_fork_45 {Kk : Int → q_H → Prop} {X : Nat → Nat → q_PR} {t as w : Nat} {S : List q_Fr} {st : List q_St} {f : Option (Int × Nat)} {x1 x2 : Int} (hd : 6 ≤ d) (hp : p = 16 ∨ p = 29) (ks : KS T σ0) (hT : z σ0 4 T = 46) (hX : XO X (z σ0 4) (nmI p σ0) (nmB p σ0) T) (hx : PX T p σ0 σ S.length st.length) (hq : AQ p (z σ0 5) (t, S, st, as, w, f) σ) (il : (itF st).length ≤ t) (h30 : S.length ≤ 30) (hb : 5 * ((st.length : Int) + cn (z σ 9) S.length) + 4 ≤ 2 * z σ0 5 (z σ 2 8).toNat) (e1 : x1 = 0 ∨ x1 = 1) (e2 : x1 = 1 → 0 ≤ x2 ∧ x2 ≤ 255) (hB1 : st.length = 0 → x1 = 0 ∧ z σ p 17 = 0) (hB2 : st.length = 1 → z σ (p + 5) 0 = 7 → x1 = 1 ∧ z σ p 17 = 0)
    (kx : ∀ τ x, (z σ0 4 t ≠ 35 ∧ x = t) ∨ (z σ0 4 t = 35 ∧ (X (S.length + 1) (t + 1) = .error x ∨ ∃ e, X (S.length + 1) (t + 1) = .ok (x, e) ∧ z σ0 4 x ≠ 36)) → PX T p σ0 τ S.length st.length → z τ 2 8 = ((x : Nat) : Int) → Kk 0 τ)
    (kk : ∀ τ C' t1 e, z σ0 4 t = 35 → X (S.length + 1) (t + 1) = .ok (t1, e) → z σ0 4 t1 = 36 → C' = (t1 + 1, (if x1 = 0 then 2 else 4, st.length, if x1 = 0 then 0 else x2, e.2.2.1, 0) :: S, st ++ [(if x1 = 0 then 4 else 8, if x1 = 0 then 0 else (lpS S : Int), 0, e.1)], as, w, f.or (xF e)) → PX T p σ0 τ C'.2.1.length C'.2.2.1.length → AQ p (z σ0 5) C' τ → (itF C'.2.2.1).length ≤ C'.1 → t < C'.1 → B0 p τ C'.2.2.1.length → Kk 1 τ) : J ω m_Pa_fork (d + 1) 0 0 0 0 45 [(0, .ref 8), (1, .int (zI x1)), (2, .int (zI x2))] [] σ (q_ki Kk) := by
  have hcc := PX_c hx
  have hT4 : T ≤ 4096 := hx.1.2.1.1
  obtain ⟨⟨⟨hE, r0, r1⟩, -⟩, -⟩ := id hx
  have q1 : z σ 2 8 = (t : Int) := hq.1
  have zero : ∀ τ, Kk 0 τ → q_ki Kk (.inl (some (.int (zI 0)))) τ := fun τ h => ⟨0, ⟨by decide, by decide⟩, rfl, h⟩
  have k35' : z σ 4 (z σ 2 8).toNat = z σ0 4 t := by rw [(PX_4 hp hx).1, q1, Int.toNat_natCast]
  refine b_Pa_fork_45 hp r0 r1 hE (w_accept (by omega) hp ks hx ⟨by decide, by decide⟩ (by decide) (fun k => b_Pa_fork_51 hp r0 r1 hE ⟨⟨by decide, by decide⟩, fun c => absurd rfl c, fun _ => zero σ (kx σ t (Or.inl ⟨by rw [← k35']; exact k, rfl⟩) hx q1)⟩) (fun k35 τ e ht t2 t3 => ?_))
  rw [k35'] at k35
  rw [q1] at e t2 t3
  rw [show ((t : Int) + 1) = ((t + 1 : Nat) : Int) by omega] at e t2 t3
  have t9 : z τ 9 = z σ 9 := by rw [e, z_oF (by decide)]
  have hqt : AQ p (z σ0 5) (t + 1, S, st, as, w, f) τ := by rw [e]; exact AI_28 (t2 := t + 1) (its := itF st) hp hq (by omega)
  have hct := PX_c ht
  obtain ⟨⟨⟨hE2, r02, r12⟩, -, -, -, ⟨i1, i9, -⟩⟩, -, -, -, ⟨th7, th31, -⟩, -⟩ := id ht
  obtain ⟨a1, a2, a3, ⟨a4, a5⟩, a6, a7, a8⟩ := id hqt
  dsimp only at a1 a2 a3 a4 a5 a6 a7 a8
  refine b_Pa_fork_51 hp r02 r12 hE2 ⟨⟨by decide, by decide⟩, fun _ => ?_, fun c => absurd c (by decide)⟩
  rw [th7, show ((S.length : Int) + 1) = ((S.length + 1 : Nat) : Int) by omega]
  refine w_expr hd hp ks hT ht hX a1 a4 a5 (by omega) (by omega) a8 (fun π x q hπ h2 => ?_) (fun π t1 e' q hπ he h2' hlt hle h17p h17 hl hil hf => ?_)
  · obtain ⟨⟨⟨hE3, r03, r13⟩, -⟩, -⟩ := id hπ
    exact b_Pa_fork_74 hp r03 r13 hE3 ⟨⟨by decide, by decide⟩, fun _ => zero π (kx π x (Or.inr ⟨k35, Or.inl q⟩) hπ h2), fun c => absurd rfl c⟩
  have hcp := PX_c hπ
  obtain ⟨⟨⟨hE3, r03, r13⟩, -⟩, -⟩ := id hπ
  have hqp : AI p (z σ0 5) (t1, S, st, as, w, f.or (xF e')) (itF st ++ e'.1) π := AI_EX (its := itF st) hp hqt he h2' h17 hl hf
  obtain ⟨-, b9, -⟩ := id he
  have p9 : z π 9 = z σ 9 := by rw [fr_zF b9 (by simp; omega), t9]
  have hv : 0 ≤ ((min e'.2.2.1 1501 : Nat) : Int) ∧ ((min e'.2.2.1 1501 : Nat) : Int) ≤ 1501 := by omega
  generalize hvw : ((min e'.2.2.1 1501 : Nat) : Int) = v at hv ⊢
  have k36' : z π 4 (z π 2 8).toNat = z σ0 4 t1 := by rw [(PX_4 hp hπ).1, h2', Int.toNat_natCast]
  refine b_Pa_fork_74 hp r03 r13 hE3 ⟨⟨by omega, by omega⟩, fun c => absurd c (by omega), fun c => w_accept (by omega) hp ks hπ ⟨by decide, by decide⟩ (by decide) (fun k => b_Pa_fork_88 hp r03 r13 hE3 ⟨⟨by decide, by decide⟩, fun c => absurd rfl c, fun _ => zero π (kx π t1 (Or.inr ⟨k35, Or.inr ⟨e', q, by rw [← k36']; exact k⟩⟩) hπ h2')⟩) (fun k36 κ e4 hκ s2 s3 => ?_)⟩
  rw [k36'] at k36
  rw [h2'] at e4 s2 s3
  rw [show ((t1 : Int) + 1) = ((t1 + 1 : Nat) : Int) by omega] at e4 s2 s3
  have t17 : z τ p 17 = z σ p 17 := by rw [e, z_o (by omega)]
  have k5 : z κ (p + 5) = z σ (p + 5) := by rw [e4, z_oF (by omega), fr_zF b9 (by simp; omega), e, z_oF (by omega)]
  have q9' : z κ 9 = z σ 9 := by rw [e4, z_oF (by decide), p9]
  have q17 : z κ p 17 = z π p 17 := by rw [e4, z_o (by omega)]
  have hqk : AI p (z σ0 5) (t1 + 1, S, st, as, w, f.or (xF e')) (itF st ++ e'.1) κ := by rw [e4]; exact AI_28 (t2 := t1 + 1) hp hqp (by omega)
  have hck := PX_c hκ
  have hn := PX_N ks hκ
  have k := KS_le ks (z σ 2 8).toNat (z κ 2 8).toNat (by omega) (by omega)
  have hb3 : 5 * ((st.length : Int) + 2 + cn (z κ 9) S.length) ≤ 2 * z σ0 5 (z κ 2 8).toNat := by rw [q9']; omega
  have h17k : 1 ≤ z κ p 17 := by omega
  rcases e1 with c0 | c1
  · subst c0
    refine l_fork_88a (e := e'.2.2.1) (by omega) hp ks hκ hqk (by omega) h30 hb3 h17k a4 hvw.symm (fun c c7 => ?_) (fun τ2 C' eC g1 g2 g3 g4 => kk τ2 C' t1 e' k35 q k36 eC g1 g2 g3 (by rw [eC]; show t < t1 + 1; omega) g4)
    rw [k5] at c7
    exact absurd (hB2 c c7).1 (by decide)
  · subst c1
    refine l_fork_88b (e := e'.2.2.1) (by omega) hp ks hκ hqk (by omega) h30 hb3 h17k a4 hvw.symm (e2 rfl) ?_ (fun c c7 => ?_) (fun τ2 C' eC g1 g2 g3 g4 => kk τ2 C' t1 e' k35 q k36 eC g1 g2 g3 (by rw [eC]; show t < t1 + 1; omega) g4)
    · rcases Nat.eq_zero_or_pos st.length with c | c
      · exact absurd (hB1 c).1 (by decide)
      · exact c
    · rw [k5] at c7
      rw [t17]; exact (hB2 c c7).2
end AhP
