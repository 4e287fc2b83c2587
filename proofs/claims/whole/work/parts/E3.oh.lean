/-! The reference runs a STATEMENT, and the whole PROGRAM -/
section OhP
variable {ω : q_W} {Nt : Nat → q_It} {V s lo : Nat} {σ0 : q_H} {WI WU : Nat → Int} {S : List q_St}
theorem RR_w {τ : q_H} {f : Int} {a : Nat} {e : Int} (h : RR s σ0 τ f) (ha : a < 16) (he : 0 ≤ e ∧ e < 256) : RR s σ0 (zs τ 128 a e) f := by
  obtain ⟨⟨h0, hE⟩, h1, h2, h3, h4⟩ := h
  refine ⟨⟨h0, zs_E hE⟩, fr_s h1 (by simp), fun k hk => by rw [z_o (by decide)]; exact h2 k hk, by rw [z_o (by decide)]; exact h3, fun i hi => ?_⟩
  rw [z_if ⟨by omega, by omega⟩]
  split
  · omega
  · exact h4 i hi
theorem k_one (hu : RU Nt V WI WU σ0) (k : Nat) : OX ω Nt V s σ0 lo WI WU S k := by
  induction k with
  | zero => intro σ n i lp l w d R Kk h; exact False.elim h
  | succ k ih =>
    intro σ n i lp l w d R Kk h hn hP hA hR hU hd k1 k2
    obtain ⟨d, rfl⟩ : ∃ k, d = k + 1 := ⟨d - 1, by omega⟩
    obtain ⟨⟨hs, r0, r1, r2, r3, r4, r5⟩, hE⟩ := RR_r hR
    obtain ⟨q0, q1, q2, q3, q4, q5, qi⟩ := RR_z hR
    refine b_M_one_0 hs r0 r1 r2 r3 r4 r5 hE ?_
    rw [q0, q1, q2, Int.toNat_natCast]
    refine ⟨⟨by omega, by omega⟩, ?_⟩
    rcases h with ⟨x, e, t, h1, h2, h3, h4, h5, h6⟩ | ⟨x, e, h1, h2, h3, h4, h5⟩ | ⟨x, e, b, l1, w1, h1, h2, h3, h4, h5, h6, h7, h8, h9⟩ | ⟨x, e, b, l1, w1, c, l2, w2, h1, h2, h3, h4, h5, h6, h7, h8, h9, h10, h11⟩ | ⟨x, e, b, l1, w1, h1, h2, h3, h4, h5, h6, h7, h8, h9⟩ | ⟨ns, h1, h2, h3, h4⟩
    · -- a setting
      rw [h1]
      subst h5
      obtain ⟨⟨ge, -⟩, a0⟩ := (And.intro (sP_cons.mp hP) (At_cons hA).1)
      obtain ⟨cw, -, -, c3⟩ := hu.2.2.2 t _ _ h4
      obtain ⟨ca, cV, cW⟩ := c3 rfl
      refine ⟨fun q => absurd q (by decide), fun q => absurd q (by decide), fun q => absurd q (by decide), fun q => absurd q (by decide), fun _ => ?_, fun q => absurd rfl q.2.2.2.2⟩
      rw [h2]
      refine r_eval hu hR hU h3 hn ge (by omega) (fun v τ hR1 e1 hv lv => ?_)
      obtain ⟨⟨-, r0, r1, r2, r3, r4, r5⟩, hE⟩ := RR_r hR1
      obtain ⟨-, -, -, q3', -⟩ := RR_z hR1
      dsimp only at cw ca cV cW
      refine b_M_one_87 hs r0 r1 r2 r3 r4 r5 hE ⟨⟨by omega, by omega⟩, ⟨by omega, by omega⟩, ⟨by omega, by omega⟩, 0, ⟨by decide, by decide⟩, rfl, ?_⟩
      rw [q3', Int.toNat_natCast, show z σ0 (s + 3) n = (((z σ0 (s + 3) n).toNat : Nat) : Int) by omega, cutN (by omega), ← Int.natCast_emod]
      have lm : v % 2 ^ (z σ0 (s + 3) n).toNat < 2 ^ (z σ0 (s + 3) n).toNat := Nat.mod_lt _ (Nat.two_pow_pos _)
      have l2 := le256 cw lm
      have U2 : nw (z (zs τ 128 (z σ0 (s + 1) n).toNat ((v % 2 ^ (z σ0 (s + 3) n).toNat : Nat) : Int)) 128) = upq (nw (z σ 128)) (z σ0 (s + 1) n).toNat (v % 2 ^ (z σ0 (s + 3) n).toNat) := by
        rw [nw_upq (by omega) ⟨by omega, by omega⟩, e1, Int.toNat_natCast]
      refine k1 _ R 1 (RR_w hR1 (by omega) ⟨by omega, by omega⟩) ?_ (fun q => absurd q (by omega)) (mIt_1 ?_) (fun _ _ => rfl) (cBd_1 (by simp))
      · rw [U2]; exact uO_upq hU (by rw [← cW]; exact lm)
      · rw [U2, x_set a0, hv, ← cW]; rfl
    · -- assert, assume
      subst h4
      obtain ⟨⟨ge, -⟩, a0⟩ := (And.intro (sP_cons.mp hP) (At_cons hA).1)
      rcases h1 with h1 | h1
      · rw [h1] at a0 k1 k2 ⊢
        rw [if_pos rfl] at a0
        refine ⟨fun q => absurd q (by decide), fun q => absurd q (by decide), fun q => absurd q (by decide), fun q => absurd q (by decide), fun q => absurd q (by decide), fun _ => ?_⟩
        rw [h2]
        refine r_eval hu hR hU h3 hn ge (by omega) (fun v τ hR1 e1 hv lv => ?_)
        obtain ⟨⟨-, r0, r1, r2, r3, r4, r5⟩, hE⟩ := RR_r hR1
        obtain ⟨-, -, q2', -⟩ := RR_z hR1
        refine b_M_one_247 hs r0 r1 r2 r3 r4 r5 hE ⟨⟨by omega, by omega⟩, fun c => ⟨⟨by omega, by omega⟩, 1, ⟨by decide, by decide⟩, rfl, ?_⟩, fun c => ⟨0, ⟨by decide, by decide⟩, rfl, ?_⟩⟩
        · rw [q2', Int.toNat_natCast]
          obtain ⟨⟨t0, tE⟩, t1, t2, t3, t4⟩ := hR1
          refine k2 _ 1 (z σ0 (s + 2) n) 1 ⟨⟨t0, zs_E tE⟩, fr_s t1 (by simp), fun k hk => by rw [z_k hk]; exact t2 k hk, z_s (z_R _ _ _), fun i hi => by rw [z_o (by decide)]; exact t4 i hi⟩ (mIt_1 ?_) (Or.inl rfl) (tBd_1 (by simp))
          rw [z_oF (by decide), e1]
          exact x_asr0 a0 (by rw [hv]; omega)
        · refine k1 τ R 1 hR1 (by rw [e1]; exact hU) (fun _ => by rw [e1]) (mIt_1 ?_) (fun _ _ => rfl) (cBd_1 (by simp))
          rw [e1]
          exact x_asr1 a0 (by rw [hv]; omega)
      · rw [h1] at a0 k1 k2 ⊢
        rw [if_neg (by decide)] at a0
        refine ⟨fun q => absurd q (by decide), fun q => absurd q (by decide), fun _ => ?_, fun q => absurd q (by decide), fun q => absurd q (by decide), fun q => absurd rfl q.2.2.1⟩
        rw [h2]
        refine r_eval hu hR hU h3 hn ge (by omega) (fun v τ hR1 e1 hv lv => ?_)
        obtain ⟨⟨-, r0, r1, r2, r3, r4, r5⟩, hE⟩ := RR_r hR1
        refine b_M_one_228 hs r0 r1 r2 r3 r4 r5 hE ⟨⟨by omega, by omega⟩, fun c => ⟨0, ⟨by decide, by decide⟩, rfl, ?_⟩, fun c => ⟨2, ⟨by decide, by decide⟩, rfl, ?_⟩⟩
        · refine k1 τ R 1 hR1 (by rw [e1]; exact hU) (fun _ => by rw [e1]) (mIt_1 ?_) (fun _ _ => rfl) (cBd_1 (by simp))
          rw [e1]
          exact x_asm1 a0 (by rw [hv]; omega)
        · refine k2 τ 2 (-1) 1 hR1 (mIt_1 ?_) (Or.inr rfl) (tBd_1 (by simp))
          rw [e1]
          exact x_asm0 a0 (by rw [hv]; omega)
    · -- if
      rw [h1]
      subst h8
      obtain ⟨ge, gp⟩ := sP_cons.mp hP
      obtain ⟨a0, A1⟩ := At_cons hA
      obtain ⟨A2, A3⟩ := At_app A1
      have a3 := (At_cons A3).1
      have gp1 := (sP_app.mp gp).1
      have hw : w1 ≤ w := by omega
      clear hA A1 A3 gp hP
      have ll : ((4, 0, ((i + 1 + l1.length : Nat) : Int), e.1) :: (l1 ++ [(6, 0, 0, [])]) : List q_St).length = l1.length + 2 := by simp
      rw [ll] at k1 k2
      refine ⟨fun _ => ?_, fun q => absurd q (by decide), fun q => absurd q (by decide), fun q => absurd q (by decide), fun q => absurd q (by decide), fun q => absurd rfl q.1⟩
      rw [h2]
      refine r_eval hu hR hU h3 hn ge (by omega) (fun v τ hR1 e1 hv lv => ?_)
      obtain ⟨⟨-, r0, r1, r2, r3, r4, r5⟩, hE⟩ := RR_r hR1
      obtain ⟨-, -, q2', q3', -⟩ := RR_z hR1
      refine b_M_one_109 hs r0 r1 r2 r3 r4 r5 hE ?_
      rw [q2', q3', Int.toNat_natCast, h7, h4]
      refine ⟨⟨by omega, by omega⟩, fun c => ⟨⟨by omega, by omega⟩, fun q => absurd q (by decide), fun _ => ⟨0, ⟨by decide, by decide⟩, rfl, ?_⟩⟩, fun c => ⟨⟨by omega, by omega⟩, ?_⟩⟩
      · refine k1 τ R 2 hR1 (by rw [e1]; exact hU) (fun _ => by rw [e1]) (mIt_tr 1 1 _ _ _ (mIt_1 (x_if0 a0 (by rw [hv]; omega))) (mIt_1 ?_)) (fun _ _ => rfl) (cBd_1 (by omega))
        rw [Int.toNat_natCast, x_join a3, e1, show i + 1 + l1.length + 1 = i + (l1.length + 2) by omega]
      · have st : mIt S WU (nw (z σ0 125)) 1 (i, nw (z σ 128), R) = .inl (i + 1, nw (z τ 128), R) := by rw [e1]; exact mIt_1 (x_if1 a0 (by rw [hv]; omega))
        refine ih τ b (i + 1) lp l1 w1 d R _ h6 (by omega) gp1 A2 hR1 (by rw [e1]; exact hU) (by omega) (fun ρ R2 E2 hR2 hU2 hV2 hm2 hj2 hb2 => ?_) (fun ρ v f E2 hR2 hm2 hv2 hb2 => ?_)
        · obtain ⟨⟨-, r0, r1, r2, r3, r4, r5⟩, hE⟩ := RR_r hR2
          refine b_M_one_122 hs r0 r1 r2 r3 r4 r5 hE ⟨0, ⟨by decide, by decide⟩, rfl, k1 ρ R2 (1 + E2 + 1) hR2 hU2 (fun q => by rw [hV2 q, e1]) (mIt_tr (1 + E2) 1 _ _ _ (mIt_tr 1 E2 _ _ _ st hm2) (mIt_1 ?_)) hj2 ?_⟩
          · rw [x_join a3, show i + 1 + l1.length + 1 = i + (l1.length + 2) by omega]
          · rw [show 1 + E2 + 1 = E2 + 2 by omega]; exact cBd_a hb2 hw (Nat.le_refl _)
        · obtain ⟨⟨-, r0, r1, r2, r3, r4, r5⟩, hE⟩ := RR_r hR2
          refine b_M_one_122 hs r0 r1 r2 r3 r4 r5 hE ⟨v, ⟨by omega, by omega⟩, rfl, k2 ρ v f (1 + E2) hR2 (mIt_tr 1 E2 _ _ _ st hm2) hv2 ?_⟩
          rw [show 1 + E2 = E2 + 1 by omega]; exact tBd_a hb2 hw (by decide)
    · -- if, else
      rw [h1]
      subst h10
      obtain ⟨ge, gp⟩ := sP_cons.mp hP
      obtain ⟨a0, A1⟩ := At_cons hA
      obtain ⟨A2, A3⟩ := At_app A1
      obtain ⟨a3, A4⟩ := At_cons A3
      obtain ⟨A5, A6⟩ := At_app A4
      have a6 := (At_cons A6).1
      have gp1 := (sP_app.mp gp).1
      have gp2 := (sP_app.mp (sP_cons.mp (sP_app.mp gp).2).2).1
      have hw : w1 ≤ w ∧ w2 ≤ w := by omega
      clear hA A1 A3 A4 A6 gp hP
      have ll : ((4, 0, ((i + 1 + l1.length + 1 : Nat) : Int), e.1) :: (l1 ++ (5, 0, ((i + 1 + l1.length + 1 + l2.length : Nat) : Int), []) :: (l2 ++ [(6, 0, 0, [])])) : List q_St).length = l1.length + l2.length + 3 := by simp; omega
      rw [ll] at k1 k2
      refine ⟨fun _ => ?_, fun q => absurd q (by decide), fun q => absurd q (by decide), fun q => absurd q (by decide), fun q => absurd q (by decide), fun q => absurd rfl q.1⟩
      rw [h2]
      refine r_eval hu hR hU h3 hn ge (by omega) (fun v τ hR1 e1 hv lv => ?_)
      obtain ⟨⟨-, r0, r1, r2, r3, r4, r5⟩, hE⟩ := RR_r hR1
      obtain ⟨-, -, q2', q3', -⟩ := RR_z hR1
      refine b_M_one_109 hs r0 r1 r2 r3 r4 r5 hE ?_
      rw [q2', q3', Int.toNat_natCast, h7, h4]
      refine ⟨⟨by omega, by omega⟩, fun q => ⟨⟨by omega, by omega⟩, fun _ => ?_, fun q => absurd q (by omega)⟩, fun q => ⟨⟨by omega, by omega⟩, ?_⟩⟩
      · have st : mIt S WU (nw (z σ0 125)) 1 (i, nw (z σ 128), R) = .inl (i + 1 + l1.length + 1, nw (z τ 128), R) := by
          rw [e1]
          refine mIt_1 ?_
          rw [x_if0 a0 (by rw [hv]; omega), Int.toNat_natCast]
        refine ih τ c (i + 1 + l1.length + 1) lp l2 w2 d R _ h9 (by omega) gp2 A5 hR1 (by rw [e1]; exact hU) (by omega) (fun ρ R2 E2 hR2 hU2 hV2 hm2 hj2 hb2 => ?_) (fun ρ v f E2 hR2 hm2 hv2 hb2 => ?_)
        · obtain ⟨⟨-, r0, r1, r2, r3, r4, r5⟩, hE⟩ := RR_r hR2
          refine b_M_one_148 hs r0 r1 r2 r3 r4 r5 hE ⟨0, ⟨by decide, by decide⟩, rfl, k1 ρ R2 (1 + E2 + 1) hR2 hU2 (fun q => by rw [hV2 q, e1]) (mIt_tr (1 + E2) 1 _ _ _ (mIt_tr 1 E2 _ _ _ st hm2) (mIt_1 ?_)) hj2 ?_⟩
          · rw [x_join a6, show i + 1 + l1.length + 1 + l2.length + 1 = i + (l1.length + l2.length + 3) by omega]
          · rw [show 1 + E2 + 1 = E2 + 2 by omega, show l1.length + l2.length + 3 = l2.length + (l1.length + 3) by omega]; exact cBd_a hb2 hw.2 (by omega)
        · obtain ⟨⟨-, r0, r1, r2, r3, r4, r5⟩, hE⟩ := RR_r hR2
          refine b_M_one_148 hs r0 r1 r2 r3 r4 r5 hE ⟨v, ⟨by omega, by omega⟩, rfl, k2 ρ v f (1 + E2) hR2 (mIt_tr 1 E2 _ _ _ st hm2) hv2 ?_⟩
          rw [show 1 + E2 = E2 + 1 by omega, show l1.length + l2.length + 3 = l2.length + (l1.length + 3) by omega]; exact tBd_a hb2 hw.2 (by omega)
      · have st : mIt S WU (nw (z σ0 125)) 1 (i, nw (z σ 128), R) = .inl (i + 1, nw (z τ 128), R) := by rw [e1]; exact mIt_1 (x_if1 a0 (by rw [hv]; omega))
        refine ih τ b (i + 1) lp l1 w1 d R _ h6 (by omega) gp1 A2 hR1 (by rw [e1]; exact hU) (by omega) (fun ρ R2 E2 hR2 hU2 hV2 hm2 hj2 hb2 => ?_) (fun ρ v f E2 hR2 hm2 hv2 hb2 => ?_)
        · obtain ⟨⟨-, r0, r1, r2, r3, r4, r5⟩, hE⟩ := RR_r hR2
          refine b_M_one_122 hs r0 r1 r2 r3 r4 r5 hE ⟨0, ⟨by decide, by decide⟩, rfl, k1 ρ R2 (1 + E2 + 1 + 1) hR2 hU2 (fun q => by rw [hV2 q, e1]) (mIt_tr (1 + E2 + 1) 1 _ _ _ (mIt_tr (1 + E2) 1 _ _ _ (mIt_tr 1 E2 _ _ _ st hm2) (mIt_1 (x_go (Or.inl rfl) a3))) (mIt_1 ?_)) hj2 ?_⟩
          · rw [Int.toNat_natCast, x_join a6, show i + 1 + l1.length + 1 + l2.length + 1 = i + (l1.length + l2.length + 3) by omega]
          · rw [show 1 + E2 + 1 + 1 = E2 + 3 by omega, show l1.length + l2.length + 3 = l1.length + (l2.length + 3) by omega]; exact cBd_a hb2 hw.1 (by omega)
        · obtain ⟨⟨-, r0, r1, r2, r3, r4, r5⟩, hE⟩ := RR_r hR2
          refine b_M_one_122 hs r0 r1 r2 r3 r4 r5 hE ⟨v, ⟨by omega, by omega⟩, rfl, k2 ρ v f (1 + E2) hR2 (mIt_tr 1 E2 _ _ _ st hm2) hv2 ?_⟩
          rw [show 1 + E2 = E2 + 1 by omega, show l1.length + l2.length + 3 = l1.length + (l2.length + 3) by omega]; exact tBd_a hb2 hw.1 (by omega)
    · -- while
      rw [h1]
      subst h8
      obtain ⟨-, gp⟩ := sP_cons.mp hP
      obtain ⟨ge, gp2⟩ := sP_cons.mp gp
      obtain ⟨a0, A1⟩ := At_cons hA
      obtain ⟨a1, A2⟩ := At_cons A1
      obtain ⟨A3, A4⟩ := At_app A2
      have a2 := (At_cons A4).1
      have gp1 := (sP_app.mp gp2).1
      have ll : ((7, z σ0 (s + 3) n, (lp : Int), []) :: (8, (lp : Int), ((i + 2 + l1.length + 1 : Nat) : Int), e.1) :: (l1 ++ [(9, 0, ((i + 1 : Nat) : Int), [])]) : List q_St).length = l1.length + 3 := by simp
      rw [ll] at k1 k2
      have hr : z σ0 (s + 3) n = (((z σ0 (s + 3) n).toNat : Nat) : Int) := by omega
      refine ⟨fun q => absurd q (by decide), fun _ => ?_, fun q => absurd q (by decide), fun q => absurd q (by decide), fun q => absurd q (by decide), fun q => absurd rfl q.2.1⟩
      refine l_while (r := (z σ0 (s + 3) n).toNat) (e := e) (l1 := l1) (w1 := w1) (w := w) (U0 := nw (z σ 128)) (R0 := R) (i := i) (lp := lp) (b := b) (x := x) ih hu (by omega) hn (by omega) h9 h2 h4 hr h3 h5.2 h6 ge gp1 A3 a1 a2 k1 k2 (z σ0 (s + 3) n).toNat 0 σ (upq R lp (z σ0 (s + 3) n)) 1 (by omega) hR hU (mIt_1 ?_) ?_ (fun j hj => ?_) (fun _ => ⟨rfl, by omega, Or.inl rfl⟩) (fun _ => by omega)
      · rw [x_loop a0, Int.toNat_natCast]
      · unfold upq; rw [if_pos rfl]; exact hr
      · unfold upq; rw [if_neg (by omega)]
    · -- a block
      rw [h1]
      refine ⟨fun q => absurd q (by decide), fun q => absurd q (by decide), fun q => absurd q (by decide), fun _ => ?_, fun q => absurd q (by decide), fun q => absurd rfl q.2.2.2.1⟩
      obtain ⟨d, rfl⟩ : ∃ k, d = k + 1 := ⟨d - 1, by omega⟩
      refine b_M_go_0 hs r0 r1 r2 r3 r4 r5 hE (l_go ih (by omega) ns i l w _ σ R (fun y hy => by have := h2 y hy; omega) h3 h4 hP hA hR hU (fun ρ R2 E2 hR2 hU2 hV2 hm2 hj2 hb2 => ?_) (fun ρ v f E2 hR2 hm2 hv2 hb2 => ?_))
      · obtain ⟨⟨-, r0, r1, r2, r3, r4, r5⟩, hE⟩ := RR_r hR2
        exact b_M_one_66 hs r0 r1 r2 r3 r4 r5 hE ⟨0, ⟨by decide, by decide⟩, rfl, k1 ρ R2 E2 hR2 hU2 hV2 hm2 hj2 hb2⟩
      · obtain ⟨⟨-, r0, r1, r2, r3, r4, r5⟩, hE⟩ := RR_r hR2
        exact b_M_one_66 hs r0 r1 r2 r3 r4 r5 hE ⟨v, ⟨by omega, by omega⟩, rfl, k2 ρ v f E2 hR2 hm2 hv2 (tBd_k hb2)⟩
end OhP
