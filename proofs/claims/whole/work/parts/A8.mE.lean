/-! The reference reads an EXPR: choice -/
section MyJ
variable {ω : q_W} {s L : Nat} {K P : Nat → Int} {N : Nat → q_It} {B : Nat → Bool} {σ0 : q_H} {fb wb : Int}
theorem X_expr {n : Nat} (lev : XL ω s L K P N B σ0 fb wb n) (en : XE ω s L K P N B σ0 fb wb n) : XE ω s L K P N B σ0 fb wb (n + 1) := by
  intro dp t r hdp h d σ Nn f0 Kk Kx hd hM kx kk
  have hd1 : 1 ≤ d := by unfold dB at hd; omega
  obtain ⟨d, rfl⟩ : ∃ k, d = k + 1 := ⟨d - 1, by omega⟩
  obtain ⟨hs, r0, r1, r2, r3, r4, r5⟩ := MB_r hM.1
  have E := hM.1.2.1
  have h8 := hM.2.1.1
  have tL := hM.2.1.2
  have L4 := hM.1.1.2.1
  have N9 : Nn ≤ 4096 := by have := hM.2.2.2.1.2; omega
  unfold pX at h
  rw [if_pos rfl] at h
  have d0 : dB 0 dp = 40 * (32 - dp) + 32 := rfl
  have d1 : dB 1 dp = 40 * (32 - dp) + 30 := rfl
  refine b_M_expr_0 hs r0 r1 r2 r3 r4 r5 E ?_
  rcases bnd_some h with ⟨x, p1, p2⟩ | ⟨t1, e1', p1, p2⟩
  · refine lev 1 dp t (.error x) (by decide) (by decide) hdp p1 d σ Nn _ _ _ (by omega) hM (fun y q μ hμ => ?_) (fun t' e q => by cases q)
    cases q
    exact Or.inr ⟨100, rfl, kx x p2 μ hμ⟩
  · refine lev 1 dp t (.ok (t1, e1')) (by decide) (by decide) hdp p1 d σ Nn _ _ _ (by omega) hM (fun y q => by cases q) (fun t' e q μ N1 v1 hμ => ?_)
    cases q
    obtain ⟨m1, m2, m3, m4, m5, m6⟩ := hμ
    obtain ⟨-, g0, g1, g2, g3, g4, g5⟩ := MB_r m1.1
    obtain ⟨a1, a2, a3, a4, a5, a6⟩ := MS_k m1
    clear a5
    have dp30 : dp ≤ 30 := ((pX_next n 1 none dp t t1 e1' (by omega) (fun q => absurd rfl q) p1).2.2.1 rfl).2
    have v19 := m6.1
    have N19 := m1.2.2.2.1.2
    have T19 := m1.2.1.2
    have i34 := kmp_iff a3 a4 (c := 34) (by decide)
    rw [show kmp 34 = 63 by decide] at i34
    have d2 : dB 0 (dp + 1) = 40 * (32 - (dp + 1)) + 32 := rfl
    refine b_M_expr_5 hs g0 g1 g2 g3 g4 g5 m1.1.2.1 ?_
    rw [m1.2.1.1, Int.toNat_natCast, a1]
    refine ⟨a6, fun c => ?_, fun c => ?_⟩
    · have c34 := i34.mp c
      clear i34 c
      rw [if_pos c34] at p2
      refine m_taken (by omega) m1 (fun q => absurd q (by omega)) (fun _ _ _ τ hτ hk h21 => ?_)
      obtain ⟨-, u0, u1, u2, u3, u4, u5⟩ := MB_r hτ.1
      refine b_M_expr_21 hs u0 u1 u2 u3 u4 u5 hτ.1.2.1 ?_
      rw [hτ.2.2.1, show (dp : Int) + 1 = ((dp + 1 : Nat) : Int) by omega]
      have hτd := MS_d (e := dp + 1) hτ (by omega)
      have kd : KN s N1 μ (zs τ 94 9 ((dp + 1 : Nat) : Int)) := KN_trans hk (Nat.le_refl _) (KN_d hs)
      have z21 : z (zs τ 94 9 ((dp + 1 : Nat) : Int)) 94 21 = z σ 94 21 := by rw [z_k (by decide), h21, m5]
      generalize zs τ 94 9 ((dp + 1 : Nat) : Int) = τd at hτd kd z21 ⊢
      rcases bnd_some p2 with ⟨x, q1, q2⟩ | ⟨t2, e2', q1, q2⟩
      · refine en (dp + 1) (t1 + 1) (.error x) (by omega) q1 d _ N1 _ _ _ (by omega) hτd (fun y q μ hμ => ?_) (fun t' e q => by cases q)
        cases q
        exact Or.inr ⟨100, rfl, kx x q2 μ hμ⟩
      · refine en (dp + 1) (t1 + 1) (.ok (t2, e2')) (by omega) q1 d _ N1 _ _ _ (by omega) hτd (fun y q => by cases q) (fun t' e q ν N2 v2 hν => ?_)
        cases q
        obtain ⟨b1, b2, b3, b4, b5, b6⟩ := hν
        obtain ⟨-, w0, w1, w2, w3, w4, w5⟩ := MB_r b1.1
        refine b_M_expr_36 hs w0 w1 w2 w3 w4 w5 b1.1.2.1 ?_
        rw [b1.2.2.1, show ((dp + 1 : Nat) : Int) - 1 = (dp : Int) by omega]
        have hνd := MS_d (e := dp) b1 (by omega)
        have kd2 : KN s N2 ν (zs ν 94 9 (dp : Int)) := KN_d hs
        have z212 : z (zs ν 94 9 (dp : Int)) 94 21 = z σ 94 21 := by rw [z_k (by decide), b5, z21]
        generalize zs ν 94 9 (dp : Int) = νd at hνd kd2 z212 ⊢
        rw [show (58 : Int) = kmp 33 by decide]
        refine m_expect (c := 33) (by omega) hνd (by decide) (fun q τ hτ => ?_) (fun _ c33 π hπ hk2 h212 => ?_)
        · have c33 : K t2 ≠ 33 := by
            rcases q with q | q
            · omega
            · exact q
          rw [if_neg c33] at q2
          exact Or.inr ⟨100, rfl, kx t2 (Option.some.inj q2).symm τ hτ⟩
        · rw [if_pos c33] at q2
          obtain ⟨-, y0, y1, y2, y3, y4, y5⟩ := MB_r hπ.1
          refine b_M_expr_53 hs y0 y1 y2 y3 y4 y5 hπ.1.2.1 ?_
          rw [hπ.2.2.1, show (dp : Int) + 1 = ((dp + 1 : Nat) : Int) by omega]
          have hπd := MS_d (e := dp + 1) hπ (by omega)
          have kd3 : KN s N2 νd (zs π 94 9 ((dp + 1 : Nat) : Int)) := KN_trans hk2 (Nat.le_refl _) (KN_d hs)
          have z213 : z (zs π 94 9 ((dp + 1 : Nat) : Int)) 94 21 = z σ 94 21 := by rw [z_k (by decide), h212, z212]
          generalize zs π 94 9 ((dp + 1 : Nat) : Int) = πd at hπd kd3 z213 ⊢
          rcases bnd_some q2 with ⟨x, s1, s2⟩ | ⟨t3, e3', s1, s2⟩
          · refine en (dp + 1) (t2 + 1) (.error x) (by omega) s1 d _ N2 _ _ _ (by omega) hπd (fun y q μ hμ => ?_) (fun t' e q => by cases q)
            cases q
            exact Or.inr ⟨100, rfl, kx x s2 μ hμ⟩
          · refine en (dp + 1) (t2 + 1) (.ok (t3, e3')) (by omega) s1 d _ N2 _ _ _ (by omega) hπd (fun y q => by cases q) (fun t' e q κ N3 v3 hκ => ?_)
            cases q
            cases s2
            obtain ⟨j1, j2, j3, j4, j5, j6⟩ := hκ
            obtain ⟨-, x0, x1, x2, x3, x4, x5⟩ := MB_r j1.1
            refine b_M_expr_68 hs x0 x1 x2 x3 x4 x5 j1.1.2.1 ?_
            rw [j1.2.2.1, show ((dp + 1 : Nat) : Int) - 1 = (dp : Int) by omega]
            have hκd := MS_d (e := dp) j1 (by omega)
            have kd4 : KN s N3 κ (zs κ 94 9 (dp : Int)) := KN_d hs
            have z214 : z (zs κ 94 9 (dp : Int)) 94 21 = z σ 94 21 := by rw [z_k (by decide), j5, z213]
            generalize zs κ 94 9 (dp : Int) = κd at hκd kd4 z214 ⊢
            have T39 := j1.2.1.2
            have N39 := j1.2.2.2.1.2
            have v29 := b6.1
            have v39 := j6.1
            -- the three where the node stands
            have C1 : XA s κd N3 (kB 1 dp) v1 e1' := XA_KN (XA_KN (XA_KN m6 (KN_trans kd (Nat.le_refl _) b2) b3) (KN_trans kd2 (Nat.le_refl _) (KN_trans kd3 (Nat.le_refl _) j2)) j3) kd4 (Nat.le_refl _)
            have C2 : XA s κd N3 (kB 0 (dp + 1)) v2 e2' := XA_KN (XA_KN b6 (KN_trans kd2 (Nat.le_refl _) (KN_trans kd3 (Nat.le_refl _) j2)) j3) kd4 (Nat.le_refl _)
            have C3 : XA s κd N3 (kB 0 (dp + 1)) v3 e3' := XA_KN j6 kd4 (Nat.le_refl _)
            have KA : KN s Nn σ κd := KN_trans m2 m3 (KN_trans (KN_trans kd (Nat.le_refl _) b2) b3 (KN_trans (KN_trans kd2 (Nat.le_refl _) (KN_trans kd3 (Nat.le_refl _) j2)) j3 kd4))
            refine m_node hκd (by omega) ⟨by decide, by decide⟩ ⟨by omega, by omega⟩ ⟨by omega, by omega⟩ ⟨by omega, by omega⟩ (fun θ hθ nk n21 o0 o1 o2 o3 o4 o5 => ?_)
            obtain ⟨-, l0, l1, l2, l3, l4, l5⟩ := MB_r hθ.1
            have F1 := XA_le (k' := kB 1 dp) (XA_KN C1 nk (Nat.le_refl _)) (Nat.le_refl _)
            have F2 := XA_le (k' := kB 1 dp) (XA_KN C2 nk (Nat.le_refl _)) (by unfold kB; omega)
            have F3 := XA_le (k' := kB 1 dp) (XA_KN C3 nk (Nat.le_refl _)) (by unfold kB; omega)
            have XN := XA_ch hs F1 F2 F3 o0 o1 o2 o3
            rw [show kB 1 dp + 1 = kB 0 dp by unfold kB; omega] at XN
            refine b_M_expr_91 hs l0 l1 l2 l3 l4 l5 hθ.1.2.1 ?_
            rw [Int.toNat_natCast, Int.toNat_natCast, Int.toNat_natCast, F2.2.1, F3.2.1]
            refine ⟨⟨by omega, by omega⟩, ⟨by omega, by omega⟩, ⟨by omega, by omega⟩, Or.inl ⟨_, ⟨by omega, by omega⟩, rfl, ?_⟩⟩
            have mw := MS_w (v := N3) (w := max e2'.2.1 e3'.2.1) hθ
            rw [orF_a, orF_a] at mw
            have z5 : z (zs θ (s + 5) N3 (max e2'.2.1 e3'.2.1)) 94 21 = z θ 94 21 := z_o (ne94 hs)
            exact kk t3 (eC e1' e2' e3') rfl _ (N3 + 1) N3 ⟨mw, KN_trans KA (by omega) (KN_trans nk (Nat.le_refl _) (KN_w hs)), by omega, by omega, z5.trans (n21.trans z214), XN⟩
    · rw [if_neg (fun q => c (i34.mpr q))] at p2
      cases p2
      exact Or.inl ⟨_, ⟨by omega, by omega⟩, rfl, kk t1 e1' rfl μ N1 v1 ⟨m1, m2, m3, m4, m5, XA_le m6 (by unfold kB; omega)⟩⟩
end MyJ
