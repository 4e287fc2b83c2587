/-! The reference reads STATEMENTS: blocks, and all of them -/
/-- in a block -/
def XB (ω : q_W) (s L : Nat) (K P : Nat → Int) (N : Nat → q_It) (B : Nat → Bool) (σ0 : q_H) (X : Nat → Nat → q_PR) (V n : Nat) : Prop := ∀ (a : q_Sm) (dp lp i as t : Nat) (r : q_SR), 1 ≤ dp → dp ≤ 31 → pS X K N B V n (some a) dp lp i as t = some r → ∀ (d : Nat) (σ : q_H) (N0 Nn : Nat) (F : Option (Int × Nat)) (x2 x3 : Int) (ns : List Nat) (Kk : Int → q_H → Prop) (Kx : Nat → q_H → Prop), dS dp ≤ d → N0 ≤ Nn → RT s L K P N B σ0 σ t dp Nn (F.or a.2.2.1) a.2.2.2 → CHN N V s σ N0 Nn dp lp i a ns x2 x3 →
  (∀ x, r = .error x → ∀ τ, MQx s L K P N B σ0 τ x → Kx 100 τ) → (∀ t' sm, r = .ok (t', sm) → ∀ (τ : q_H) (N' : Nat) (ns' : List Nat) (y2 y3 : Int), RT s L K P N B σ0 τ t' dp N' (F.or sm.2.2.1) sm.2.2.2 → KN s N0 σ τ → Nn ≤ N' → N' + t ≤ Nn + t' → CHN N V s τ N0 N' dp lp i sm ns' y2 y3 → J ω m_M_statement (d + 1) 0 0 0 0 415 [(0, .ref 94), (2, .int (zI y2)), (3, .int (zI y3))] [] τ (q_ox (q_ki Kk) Kx)) → J ω m_M_statement (d + 1) 0 0 0 0 415 [(0, .ref 94), (2, .int (zI x2)), (3, .int (zI x3))] [] σ (q_ox (q_ki Kk) Kx)
section WmJ
variable {ω : q_W} {s L : Nat} {K P : Nat → Int} {N : Nat → q_It} {B : Nat → Bool} {σ0 : q_H} {X : Nat → Nat → q_PR} {V : Nat}
theorem XB_of {n : Nat} (xs : XS ω s L K P N B σ0 X V n) (xb : XB ω s L K P N B σ0 X V n) : XB ω s L K P N B σ0 X V (n + 1) := by
  intro a dp lp i as t r dp1 hdp h d σ N0 Nn F x2 x3 ns Kk Kx hd hN0 hM hC kx kk
  rw [pS_s] at h
  have tm : tmn dp = 38 := by unfold tmn; rw [if_neg (by omega)]
  rw [tm] at h
  by_cases c : K t = 38
  · rw [if_pos c] at h
    exact kk t a (Option.some.inj h).symm σ Nn ns x2 x3 hM KN_refl (Nat.le_refl _) (by omega) hC
  · rw [if_neg c] at h
    obtain ⟨⟨hs, r0, r1, r2, r3, r4, r5⟩, hE, h8, h9, n1, n2, n3⟩ := RT_r hM
    obtain ⟨a1, a2, a3, a4, a5, a6⟩ := MS_k hM.1
    have i38 := kmp_iff a3 a4 (c := 38) (by decide)
    rw [show kmp 38 = 125 by decide] at i38
    obtain ⟨-, hx3⟩ := CHN_x2 hC
    refine b_M_statement_415 hs r0 r1 r2 r3 r4 r5 hE ?_
    rw [h8, Int.toNat_natCast, a1]
    refine ⟨a6, fun q => absurd (i38.mp q) c, fun _ => ?_⟩
    clear i38
    rcases bnS_some h with ⟨x, p1, p2⟩ | ⟨t1, s1, p1, p2⟩
    · refine xs dp lp _ _ t (.error x) hdp p1 d σ Nn _ _ _ hd hM (fun y q μ hμ => ?_) (fun t' e q => by cases q)
      cases q
      exact Or.inr ⟨100, rfl, kx x p2 μ hμ⟩
    refine xs dp lp _ _ t (.ok (t1, s1)) hdp p1 d σ Nn _ _ _ hd hM (fun y q => by cases q) (fun t' e' q μ N1 v hμ => ?_)
    cases q
    obtain ⟨b1, b2, b3, b4, b5, b6, b7⟩ := hμ
    rw [Option.or_assoc] at b1
    obtain ⟨⟨-, r0, r1, r2, r3, r4, r5⟩, hE, -, -, y1, y2, y3⟩ := RT_r b1
    obtain ⟨g1, g2⟩ := CHN_add hs hC hN0 b2 ⟨b3, b4⟩ (by omega) b6 b7
    refine b_M_statement_428 hs r0 r1 r2 r3 r4 r5 hE ⟨⟨by omega, by omega⟩, fun c3 => ⟨⟨c3, by omega⟩, ?_⟩, fun c3 => ?_⟩
    · obtain ⟨g3, g4⟩ := g1 c3
      exact xb (sApp a s1) dp lp i as t1 r dp1 hdp p2 d _ N0 N1 F x2 (v : Int) (ns ++ [v]) Kk Kx hd (by omega) (RT_nx b1) g3 kx (fun t' sm q τ N' ns' z2 z3 e1 e2 e3 e4 e5 => kk t' sm q τ N' ns' z2 z3 e1 (KN_trans g4 (Nat.le_refl _) e2) (by omega) (by omega) e5)
    · exact xb (sApp a s1) dp lp i as t1 r dp1 hdp p2 d μ N0 N1 F (v : Int) (v : Int) (ns ++ [v]) Kk Kx hd (by omega) b1 (g2 c3) kx (fun t' sm q τ N' ns' z2 z3 e1 e2 e3 e4 e5 => kk t' sm q τ N' ns' z2 z3 e1 (KN_trans (KN_sub b2 hN0) (Nat.le_refl _) e2) (by omega) (by omega) e5)
/-- a block -/
theorem S_blk {d : Nat} {σ : q_H} {t dp Nn as : Nat} {F : Option (Int × Nat)} {Kk : Int → q_H → Prop} {Kx : Nat → q_H → Prop} {n lp i : Nat} {r : q_SR} (xb : XB ω s L K P N B σ0 X V n) (c1 : K t = 37) (hdp : dp ≤ 30) (hr : bnS (pS X K N B V n (some ([], 0, none, as)) (dp + 1) lp i as (t + 1)) (fun t1 s => some (.ok (t1 + 1, s))) = some r) (hd : dS dp ≤ d + 1) (h : RT s L K P N B σ0 σ t dp Nn F as)
    (kx : ∀ x, r = .error x → ∀ τ, MQx s L K P N B σ0 τ x → Kx 100 τ) (kk : ∀ t' sm, r = .ok (t', sm) → ∀ (τ : q_H) (N' v : Nat), ZP s L K P N B σ0 V σ t dp Nn F i lp t' sm τ N' v → Kk (v : Int) τ) : J ω m_M_taken d 0 0 0 0 0 [(0, .ref 94)] [] σ (q_ox (q_ki (fun v τ => J ω m_M_statement (d + 1) 0 0 0 0 400 [(0, .ref 94)] [.int (zI v)] τ (q_ox (q_ki Kk) Kx))) (fun x τ => (q_ox (q_ki Kk) Kx) (.inr x) τ)) := by
  unfold dS at hd
  refine r_taken (by omega) h (fun q => absurd q (by omega)) (fun _ _ _ τ hτ hk => ?_)
  obtain ⟨⟨hs, r0, r1, r2, r3, r4, r5⟩, hE, h8, h9, n1, n2, n3⟩ := RT_r hτ
  refine b_M_statement_400 hs r0 r1 r2 r3 r4 r5 hE ?_
  rw [h9, show (dp : Int) + 1 = ((dp + 1 : Nat) : Int) by omega]
  have hτd := RT_d (e := dp + 1) hτ (by omega)
  have kd : KN s Nn σ (zs τ 94 9 ((dp + 1 : Nat) : Int)) := KN_trans hk (Nat.le_refl _) (KN_d hs)
  generalize zs τ 94 9 ((dp + 1 : Nat) : Int) = τd at hτd kd ⊢
  obtain ⟨k, hkk⟩ : ∃ k, 32 - dp = k + 1 := ⟨31 - dp, by omega⟩
  have hk' : 32 - (dp + 1) = k := by omega
  have C0 : CHN N V s τd Nn Nn (dp + 1) lp i ([], 0, none, as) [] (-1) (-1) := ⟨Or.inl ⟨rfl, rfl⟩, fun y hy => (by cases hy), rfl, fun _ => ⟨rfl, rfl⟩⟩
  have hτ0 : RT s L K P N B σ0 τd (t + 1) (dp + 1) Nn (F.or none) as := by rw [Option.or_none]; exact hτd
  rcases bnS_some hr with ⟨x, p1, p2⟩ | ⟨t1, s1, p1, p2⟩
  · refine xb ([], 0, none, as) (dp + 1) lp i as (t + 1) (.error x) (by omega) (by omega) p1 d τd Nn Nn F (-1) (-1) [] Kk Kx (by unfold dS; omega) (Nat.le_refl _) hτ0 C0 (fun y q μ hμ => ?_) (fun t' e q => by cases q)
    cases q
    exact kx x p2 μ hμ
  have k38 : K t1 = 38 := by
    have := pS_stop _ _ _ _ _ _ _ _ _ p1
    unfold tmn at this
    rwa [if_neg (by omega)] at this
  refine xb ([], 0, none, as) (dp + 1) lp i as (t + 1) (.ok (t1, s1)) (by omega) (by omega) p1 d τd Nn Nn F (-1) (-1) [] Kk Kx (by unfold dS; omega) (Nat.le_refl _) hτ0 C0 (fun y q => by cases q) (fun t' sm q μ N1 ns y2 y3 hμ hk2 m1 m2 hC => ?_)
  cases q
  have hr' := (Option.some.inj p2).symm
  obtain ⟨⟨-, r0, r1, r2, r3, r4, r5⟩, hE, h8, h9, z1, z2, z3⟩ := RT_r hμ
  obtain ⟨a1, a2, a3, a4, a5, a6⟩ := MS_k hμ.1
  obtain ⟨hx2, -⟩ := CHN_x2 hC
  refine b_M_statement_415 hs r0 r1 r2 r3 r4 r5 hE ?_
  rw [h8, Int.toNat_natCast, a1, k38, h9, show ((dp + 1 : Nat) : Int) - 1 = (dp : Int) by omega]
  have hμd := RT_d (e := dp) hμ (by omega)
  have kμ : KN s N1 μ (zs μ 94 9 (dp : Int)) := KN_d hs
  generalize zs μ 94 9 (dp : Int) = μd at hμd kμ ⊢
  refine ⟨a6, fun _ => ?_, fun q => absurd (by decide) q⟩
  refine r_taken (by omega) hμd (fun q => absurd q (by omega)) (fun _ _ _ ν hν kν => ?_)
  obtain ⟨⟨-, r0, r1, r2, r3, r4, r5⟩, hE, h8, h9, w1, w2, w3⟩ := RT_r hν
  refine b_M_statement_468 hs r0 r1 r2 r3 r4 r5 hE (r_node hν (by omega) ⟨by decide, by decide⟩ ⟨by omega, by omega⟩ ⟨by decide, by decide⟩ ⟨by decide, by decide⟩ (fun τ6 hτ6 hk6 o0 o1 o2 o3 o4 => ?_))
  obtain ⟨⟨-, g0, g1, g2, g3, g4, g5⟩, gE, -⟩ := RT_r hτ6
  have kend : KN s N1 μ τ6 := KN_trans kμ (Nat.le_refl _) (KN_trans kν (Nat.le_refl _) hk6)
  refine b_M_statement_479 hs g0 g1 g2 g3 g4 g5 gE (Or.inl ⟨_, ⟨by omega, by omega⟩, rfl, kk (t1 + 1) s1 hr' τ6 (N1 + 1) N1 ⟨hτ6, KN_trans kd (Nat.le_refl _) (KN_trans hk2 m1 kend), by omega, by omega, by omega, o4, fun hn => ?_⟩⟩)
  obtain ⟨-, q2, q3, q4⟩ := hC
  have q5 := q4 hn
  rw [hk'] at q5
  rw [hkk]
  refine Or.inr (Or.inr (Or.inr (Or.inr (Or.inr ⟨ns, o0, q2, ?_, NSs_mono ns _ _ _ q5 (fun m hm i l w q => NS_mono k m i lp l w q (KM_of (KL_of kend) (q2 m hm).2))⟩))))
  rw [o1]
  exact lnk_cong ns y2 q3 (fun m hm => (kend m (q2 m hm).2).2.2.2.2.1)
theorem XS_of {n : Nat} (hX : XO X K N B L) (xs : XS ω s L K P N B σ0 X V n) (xb : XB ω s L K P N B σ0 X V n) : XS ω s L K P N B σ0 X V (n + 1) := by
  intro dp lp i as t r hdp h d σ Nn F Kk Kx hd hM kx kk
  have hd0 := hd
  unfold dS at hd0
  obtain ⟨d, rfl⟩ : ∃ k, d = k + 1 := ⟨d - 1, by omega⟩
  obtain ⟨⟨hs, r0, r1, r2, r3, r4, r5⟩, hE, h8, h9, n1, n2, n3⟩ := RT_r hM
  obtain ⟨a1, a2, a3, a4, a5, a6⟩ := MS_k hM.1
  rw [pS_1] at h
  have i37 := kmp_iff a3 a4 (c := 37) (by decide)
  have i41 := kmp_iff a3 a4 (c := 41) (by decide)
  have i43 := kmp_iff a3 a4 (c := 43) (by decide)
  have i44 := kmp_iff a3 a4 (c := 44) (by decide)
  have i45 := kmp_iff a3 a4 (c := 45) (by decide)
  have i30 := kmp_iff a3 a4 (c := 30) (by decide)
  rw [show kmp 37 = 123 by decide] at i37
  rw [show kmp 41 = 258 by decide] at i41
  rw [show kmp 43 = 260 by decide] at i43
  rw [show kmp 44 = 261 by decide] at i44
  rw [show kmp 45 = 262 by decide] at i45
  rw [show kmp 30 = 263 by decide] at i30
  refine b_M_statement_0 hs r0 r1 r2 r3 r4 r5 hE ?_
  rw [h8, Int.toNat_natCast, a1]
  -- too deep: all the same
  have deep : 30 < dp → ∀ {g : Int → q_H → Prop}, J ω m_M_taken d 0 0 0 0 0 [(0, .ref 94)] [] σ (q_ox (q_ki g) (fun x τ => (q_ox (q_ki Kk) Kx) (.inr x) τ)) := fun c g => by
    rw [if_pos c] at h
    exact r_taken (by omega) hM (fun _ τ hτ => Or.inr ⟨100, rfl, kx t (Option.some.inj h).symm τ hτ⟩) (fun q => absurd q (by omega))
  refine ⟨a6, fun c => ?_, fun c => ?_, fun c => ?_, fun c => ?_, fun c => ?_, fun c => ?_⟩
  · have c := i37.mp c
    by_cases c0 : 30 < dp
    · exact deep c0
    rw [if_neg c0, if_neg (by omega), if_neg (by omega), if_neg (by omega), if_neg (by omega), if_pos c] at h
    exact S_blk xb c (by omega) h hd hM kx kk
  · have c := i41.mp c
    by_cases c0 : 30 < dp
    · exact deep c0
    rw [if_neg c0, if_neg (by omega), if_neg (by omega), if_pos c] at h
    exact S_if xs hX c (by omega) h hd hM kx kk
  · have c := i43.mp c
    by_cases c0 : 30 < dp
    · exact deep c0
    rw [if_neg c0, if_neg (by omega), if_neg (by omega), if_neg (by omega), if_pos c] at h
    exact S_whi xs hX c (by omega) h hd hM kx kk
  · have c2 : K t = 44 ∨ K t = 45 := by
      rcases c with c | c
      · exact Or.inl (i44.mp c)
      · exact Or.inr (i45.mp c)
    by_cases c0 : 30 < dp
    · exact deep c0
    rw [if_neg c0, if_neg (by omega), if_pos c2] at h
    refine S_cla hX c2 (by omega) h hd hM kx kk ?_
    rcases c2 with c2 | c2
    · exact Or.inl ⟨i44.mpr c2, c2⟩
    · exact Or.inr ⟨i45.mpr c2, c2⟩
  · have c := i30.mp c
    by_cases c0 : 30 < dp
    · exact deep c0
    rw [if_neg c0, if_pos c] at h
    exact S_set (n := n) hX c (by omega) h hd hM kx kk
  · obtain ⟨u1, u2, u3, u4, u5, u6⟩ := c
    have r' : r = .error t := by
      by_cases c0 : 30 < dp
      · rw [if_pos c0] at h; exact (Option.some.inj h).symm
      · rw [if_neg c0, if_neg (fun q => u6 (i30.mpr q)), if_neg (fun q => q.elim (fun q => u4 (i44.mpr q)) (fun q => u5 (i45.mpr q))), if_neg (fun q => u2 (i41.mpr q)), if_neg (fun q => u3 (i43.mpr q)), if_neg (fun q => u1 (i37.mpr q))] at h
        exact (Option.some.inj h).symm
    refine m_bad hM.1 (fun τ hτ => ⟨rfl, ?_⟩)
    obtain ⟨-, g0, g1, g2, g3, g4, g5⟩ := MB_r hτ.1
    exact b_M_statement_484 hs g0 g1 g2 g3 g4 g5 hτ.1.2.1 (Or.inr ⟨100, rfl, kx t r' τ hτ⟩)
/-- THE REFERENCE READS STATEMENTS as recursive descent does -/
theorem m_S (hX : XO X K N B L) (n : Nat) : XS ω s L K P N B σ0 X V n ∧ XB ω s L K P N B σ0 X V n := by
  induction n with
  | zero => exact ⟨fun _ _ _ _ _ _ _ h => (by unfold pS at h; cases h), fun _ _ _ _ _ _ _ _ _ h => (by unfold pS at h; cases h)⟩
  | succ n ih => exact ⟨XS_of hX ih.1 ih.2, XB_of ih.1 ih.2⟩
end WmJ
