/-! The reference reads STATEMENTS: if and while -/
theorem orN {α : Type} {a b : Option α} (h : a.or b = none) : a = none ∧ b = none := by
  cases a with
  | none => exact ⟨rfl, h⟩
  | some x => cases h
theorem xF_none {e : q_Ex} (h : xF e = none) : e.2.2.2 = none := by
  unfold xF at h
  cases he : e.2.2.2 with
  | none => rfl
  | some x => rw [he] at h; cases h
section TmJ
variable {ω : q_W} {d s L : Nat} {K P : Nat → Int} {N : Nat → q_It} {B : Nat → Bool} {σ0 σ : q_H} {X : Nat → Nat → q_PR} {V : Nat} {t dp Nn as : Nat} {F : Option (Int × Nat)}
theorem r_brackets {Kk : Int → q_H → Prop} {Kx : Nat → q_H → Prop} (hX : XO X K N B L) (hdp : dp ≤ 30) (hd : dB 0 (dp + 1) + 4 ≤ d) (h : RT s L K P N B σ0 σ t dp Nn F as)
    (kx : ∀ x, (K t ≠ 35 ∧ x = t) ∨ (K t = 35 ∧ (X (dp + 1) (t + 1) = .error x ∨ ∃ e, X (dp + 1) (t + 1) = .ok (x, e) ∧ K x ≠ 36)) → ∀ τ, MQx s L K P N B σ0 τ x → Kx 100 τ)
    (kk : ∀ t1 e, K t = 35 → X (dp + 1) (t + 1) = .ok (t1, e) → K t1 = 36 → ∀ (τ : q_H) (N' v : Nat), RT s L K P N B σ0 τ (t1 + 1) dp N' (F.or (xF e)) as → KN s Nn σ τ → Nn ≤ N' → N' + t + 1 ≤ Nn + t1 → t + 1 < t1 → XA s τ N' 384 v e → Kk (v : Int) τ) : J ω m_M_inBrackets d 0 0 0 0 0 [(0, .ref 94)] [] σ (q_ox (q_ki Kk) Kx) := by
  obtain ⟨d, rfl⟩ : ∃ k, d = k + 1 := ⟨d - 1, by omega⟩
  obtain ⟨⟨hs, r0, r1, r2, r3, r4, r5⟩, hE, h8, h9, n1, n2, n3⟩ := RT_r h
  refine b_M_inBrackets_0 hs r0 r1 r2 r3 r4 r5 hE ?_
  rw [show (40 : Int) = kmp 35 by decide]
  refine r_expect (c := 35) (by omega) h (by decide) (fun q τ hτ => ?_) (fun _ c35 τ hτ hk => ?_)
  · exact Or.inr ⟨100, rfl, kx t (Or.inl ⟨by rcases q with q | q; exact absurd q (by omega); exact q, rfl⟩) τ hτ⟩
  obtain ⟨⟨-, r0, r1, r2, r3, r4, r5⟩, hE, h8, h9, n1, n2, n3⟩ := RT_r hτ
  refine b_M_inBrackets_6 hs r0 r1 r2 r3 r4 r5 hE ?_
  rw [h9, show (dp : Int) + 1 = ((dp + 1 : Nat) : Int) by omega]
  have hτd := RT_d (e := dp + 1) hτ (by omega)
  have kd : KN s Nn σ (zs τ 94 9 ((dp + 1 : Nat) : Int)) := KN_trans hk (Nat.le_refl _) (KN_d hs)
  generalize zs τ 94 9 ((dp + 1 : Nat) : Int) = τd at hτd kd ⊢
  refine r_expr hX (by omega) (by omega) hτd (fun x q τ2 hτ2 => Or.inr ⟨100, rfl, kx x (Or.inr ⟨c35, Or.inl q⟩) τ2 hτ2⟩) (fun t1 e q τ2 N2 v hτ2 hk2 m1 m2 m3 hA => ?_)
  obtain ⟨⟨-, r0, r1, r2, r3, r4, r5⟩, hE, h8, h9, n1', n2', n3'⟩ := RT_r hτ2
  refine b_M_inBrackets_21 hs r0 r1 r2 r3 r4 r5 hE ?_
  rw [h9, show ((dp + 1 : Nat) : Int) - 1 = (dp : Int) by omega]
  have hτe := RT_d (e := dp) hτ2 (by omega)
  have ke : KN s N2 τ2 (zs τ2 94 9 (dp : Int)) := KN_d hs
  generalize zs τ2 94 9 (dp : Int) = τe at hτe ke ⊢
  rw [show (41 : Int) = kmp 36 by decide]
  refine r_expect (c := 36) (by omega) hτe (by decide) (fun q2 τ3 hτ3 => ?_) (fun _ c36 τ3 hτ3 hk3 => ?_)
  · exact Or.inr ⟨100, rfl, kx t1 (Or.inr ⟨c35, Or.inr ⟨e, q, by rcases q2 with q2 | q2; exact absurd q2 (by omega); exact q2⟩⟩) τ3 hτ3⟩
  obtain ⟨⟨-, r0, r1, r2, r3, r4, r5⟩, hE, h8, h9, n1'', n2'', n3''⟩ := RT_r hτ3
  have v1 := hA.1
  exact b_M_inBrackets_38 hs r0 r1 r2 r3 r4 r5 hE (Or.inl ⟨_, ⟨by omega, by omega⟩, rfl, kk t1 e c35 q c36 τ3 N2 v hτ3 (KN_trans kd (Nat.le_refl _) (KN_trans hk2 m1 (KN_trans ke (Nat.le_refl _) hk3))) m1 (by omega) m3 (XA_KN (XA_KN hA ke (Nat.le_refl _)) hk3 (Nat.le_refl _))⟩)
/-- an if -/
theorem S_if {Kk : Int → q_H → Prop} {Kx : Nat → q_H → Prop} {n lp i : Nat} {r : q_SR} (xs : XS ω s L K P N B σ0 X V n) (hX : XO X K N B L) (c1 : K t = 41) (hdp : dp ≤ 30) (hr : (if K (t + 1) = 35 then bnX (X (dp + 1) (t + 2)) (fun t1 e =>
        if K t1 = 36 then bnS (pS X K N B V n none (dp + 1) lp (i + 1) as (t1 + 1)) (fun t2 s =>
          if K t2 = 42 then bnS (pS X K N B V n none (dp + 1) lp (i + 1 + s.1.length + 1) s.2.2.2 (t2 + 1)) (fun t3 o => some (.ok (t3, sElse V i e s o)))
          else some (.ok (t2, sIf V i e s)))
        else some (.error t1))
      else some (.error (t + 1))) = some r) (hd : dS dp ≤ d + 1) (h : RT s L K P N B σ0 σ t dp Nn F as)
    (kx : ∀ x, r = .error x → ∀ τ, MQx s L K P N B σ0 τ x → Kx 100 τ) (kk : ∀ t' sm, r = .ok (t', sm) → ∀ (τ : q_H) (N' v : Nat), ZP s L K P N B σ0 V σ t dp Nn F i lp t' sm τ N' v → Kk (v : Int) τ) : J ω m_M_taken d 0 0 0 0 0 [(0, .ref 94)] [] σ (q_ox (q_ki (fun v τ => J ω m_M_statement (d + 1) 0 0 0 0 176 [(0, .ref 94)] [.int (zI v)] τ (q_ox (q_ki Kk) Kx))) (fun x τ => (q_ox (q_ki Kk) Kx) (.inr x) τ)) := by
  unfold dS at hd
  refine r_taken (by omega) h (fun q => absurd q (by omega)) (fun _ _ _ τ hτ hk => ?_)
  obtain ⟨⟨hs, r0, r1, r2, r3, r4, r5⟩, hE, h8, h9, n1, n2, n3⟩ := RT_r hτ
  refine b_M_statement_176 hs r0 r1 r2 r3 r4 r5 hE (r_brackets hX hdp (by unfold dB; omega) hτ (fun x q τ2 hτ2 => ?_) (fun t1 e c35 q c36 τ2 N2 v hτ2 hk2 m1 m2 m3 hA => ?_))
  · refine Or.inr ⟨100, rfl, kx x ?_ τ2 hτ2⟩
    rcases q with ⟨q, q2⟩ | ⟨q, q2 | ⟨e, q2, q3⟩⟩
    · rw [if_neg q] at hr; rw [q2]; exact (Option.some.inj hr).symm
    · rw [if_pos q, show X (dp + 1) (t + 2) = .error x from q2] at hr; exact (Option.some.inj hr).symm
    · rw [if_pos q, show X (dp + 1) (t + 2) = .ok (x, e) from q2] at hr
      change (if K x = 36 then _ else some (.error x)) = some r at hr
      rw [if_neg q3] at hr
      exact (Option.some.inj hr).symm
  rw [if_pos c35, show X (dp + 1) (t + 2) = .ok (t1, e) from q] at hr
  change (if K t1 = 36 then bnS (pS X K N B V n none (dp + 1) lp (i + 1) as (t1 + 1)) (fun t2 s =>
          if K t2 = 42 then bnS (pS X K N B V n none (dp + 1) lp (i + 1 + s.1.length + 1) s.2.2.2 (t2 + 1)) (fun t3 o => some (.ok (t3, sElse V i e s o)))
          else some (.ok (t2, sIf V i e s))) else some (.error t1)) = some r at hr
  rw [if_pos c36] at hr
  obtain ⟨⟨-, r0, r1, r2, r3, r4, r5⟩, hE, h8, h9, n1', n2', n3'⟩ := RT_r hτ2
  have v1 := hA.1
  refine b_M_statement_181 hs r0 r1 r2 r3 r4 r5 hE ?_
  rw [h9, show (dp : Int) + 1 = ((dp + 1 : Nat) : Int) by omega]
  have hτd := RT_d (e := dp + 1) hτ2 (by omega)
  have kd : KN s N2 τ2 (zs τ2 94 9 ((dp + 1 : Nat) : Int)) := KN_d hs
  have Kσ : KN s Nn σ τ2 := KN_trans hk (Nat.le_refl _) hk2
  generalize zs τ2 94 9 ((dp + 1 : Nat) : Int) = τd at hτd kd ⊢
  obtain ⟨k, hkk⟩ : ∃ k, 32 - dp = k + 1 := ⟨31 - dp, by omega⟩
  have hk' : 32 - (dp + 1) = k := by omega
  rcases bnS_some hr with ⟨x, p1, p2⟩ | ⟨t2, s2, p1, p2⟩
  · refine xs (dp + 1) lp (i + 1) as (t1 + 1) (.error x) (by omega) p1 d τd N2 _ _ _ (by unfold dS; omega) hτd (fun y q μ hμ => ?_) (fun t' e q => by cases q)
    cases q
    exact Or.inr ⟨100, rfl, kx x p2 μ hμ⟩
  refine xs (dp + 1) lp (i + 1) as (t1 + 1) (.ok (t2, s2)) (by omega) p1 d τd N2 _ _ _ (by unfold dS; omega) hτd (fun y q => by cases q) (fun t' e' q μ N3 v2 hμ => ?_)
  cases q
  obtain ⟨b1, b2, b3, b4, b5, b6, b7⟩ := hμ
  rw [hk'] at b7
  obtain ⟨⟨-, r0, r1, r2, r3, r4, r5⟩, hE, h8, h9, n1'', n2'', n3''⟩ := RT_r b1
  obtain ⟨a1, a2, a3, a4, a5, a6⟩ := MS_k b1.1
  have i42 := kmp_iff a3 a4 (c := 42) (by decide)
  rw [show kmp 42 = 259 by decide] at i42
  refine b_M_statement_196 hs r0 r1 r2 r3 r4 r5 hE ?_
  rw [h8, Int.toNat_natCast, a1, h9, show ((dp + 1 : Nat) : Int) - 1 = (dp : Int) by omega]
  have hμd := RT_d (e := dp) b1 (by omega)
  have kμ : KN s N3 μ (zs μ 94 9 (dp : Int)) := KN_d hs
  have hAμ : XA s (zs μ 94 9 (dp : Int)) N3 384 v e := XA_KN (XA_KN (XA_KN hA kd (Nat.le_refl _)) b2 (by omega)) kμ (Nat.le_refl _)
  have Kμ : KN s Nn σ (zs μ 94 9 (dp : Int)) := KN_trans Kσ m1 (KN_trans kd (Nat.le_refl _) (KN_trans b2 (by omega) kμ))
  generalize zs μ 94 9 (dp : Int) = μd at hμd kμ hAμ Kμ ⊢
  refine ⟨a6, fun c => ?_, fun c => ?_⟩
  · have c42 : K t2 ≠ 42 := fun q => c (i42.mpr q)
    rw [if_neg c42] at p2
    have hr' := (Option.some.inj p2).symm
    refine r_node hμd (by omega) ⟨by decide, by decide⟩ ⟨by omega, by omega⟩ ⟨by omega, by omega⟩ ⟨by decide, by decide⟩ (fun τ6 hτ6 hk6 o0 o1 o2 o3 o4 => ?_)
    obtain ⟨⟨-, g0, g1, g2, g3, g4, g5⟩, gE, -⟩ := RT_r hτ6
    refine b_M_statement_262 hs g0 g1 g2 g3 g4 g5 gE (Or.inl ⟨_, ⟨by omega, by omega⟩, rfl, kk t2 (sIf V i e s2) hr' τ6 (N3 + 1) N3 ⟨?_, KN_trans Kμ (by omega) hk6, by omega, by omega, by omega, o4, fun hn => ?_⟩⟩)
    · unfold sIf; dsimp only; rw [← Option.or_assoc]; exact hτ6
    · obtain ⟨e1, e2⟩ := orN hn
      rw [hkk]
      exact Or.inr (Or.inr (Or.inl ⟨v, e, v2, s2.1, s2.2.1, o0, o1, XA_384 hAμ hk6 (xF_none e1), o2, ⟨by omega, b4⟩, NS_lo (by omega) k v2 (i + 1) lp s2.1 s2.2.1 (NS_mono k v2 (i + 1) lp s2.1 s2.2.1 (b7 e2) (KM_of (KL_of (KN_trans kμ (Nat.le_refl _) hk6)) b4)), o3, rfl, rfl⟩))
  · have c42 : K t2 = 42 := i42.mp c
    rw [if_pos c42] at p2
    clear i42
    refine r_taken (by omega) hμd (fun q => absurd q (by omega)) (fun _ _ _ ν hν kν => ?_)
    obtain ⟨⟨-, r0, r1, r2, r3, r4, r5⟩, hE, h8, h9, y1, y2, y3⟩ := RT_r hν
    refine b_M_statement_224 hs r0 r1 r2 r3 r4 r5 hE ?_
    rw [h9, show (dp : Int) + 1 = ((dp + 1 : Nat) : Int) by omega]
    have hνd := RT_d (e := dp + 1) hν (by omega)
    have kνd : KN s N3 μ (zs ν 94 9 ((dp + 1 : Nat) : Int)) := KN_trans kμ (Nat.le_refl _) (KN_trans kν (Nat.le_refl _) (KN_d hs))
    have Kν : KN s Nn σ (zs ν 94 9 ((dp + 1 : Nat) : Int)) := KN_trans Kμ (by omega) (KN_trans kν (Nat.le_refl _) (KN_d hs))
    have hAν : XA s (zs ν 94 9 ((dp + 1 : Nat) : Int)) N3 384 v e := XA_KN hAμ (KN_trans kν (Nat.le_refl _) (KN_d hs)) (Nat.le_refl _)
    generalize zs ν 94 9 ((dp + 1 : Nat) : Int) = νd at hνd kνd Kν hAν ⊢
    rcases bnS_some p2 with ⟨x, p3, p4⟩ | ⟨t3, s3, p3, p4⟩
    · refine xs (dp + 1) lp _ _ (t2 + 1) (.error x) (by omega) p3 d νd N3 _ _ _ (by unfold dS; omega) hνd (fun y q μ hμ => ?_) (fun t' e q => by cases q)
      cases q
      exact Or.inr ⟨100, rfl, kx x p4 μ hμ⟩
    refine xs (dp + 1) lp _ _ (t2 + 1) (.ok (t3, s3)) (by omega) p3 d νd N3 _ _ _ (by unfold dS; omega) hνd (fun y q => by cases q) (fun t' e' q ξ N4 v3 hξ => ?_)
    cases q
    have hr' := (Option.some.inj p4).symm
    obtain ⟨d1, d2, d3, d4, d5, d6, d7⟩ := hξ
    rw [hk'] at d7
    obtain ⟨⟨-, r0, r1, r2, r3, r4, r5⟩, hE, h8, h9, y1', y2', y3'⟩ := RT_r d1
    refine b_M_statement_239 hs r0 r1 r2 r3 r4 r5 hE ?_
    rw [h9, show ((dp + 1 : Nat) : Int) - 1 = (dp : Int) by omega]
    have hξd := RT_d (e := dp) d1 (by omega)
    have kξ : KN s N4 ξ (zs ξ 94 9 (dp : Int)) := KN_d hs
    generalize zs ξ 94 9 (dp : Int) = ξd at hξd kξ ⊢
    refine r_node hξd (by omega) ⟨by decide, by decide⟩ ⟨by omega, by omega⟩ ⟨by omega, by omega⟩ ⟨by omega, by omega⟩ (fun τ6 hτ6 hk6 o0 o1 o2 o3 o4 => ?_)
    obtain ⟨⟨-, g0, g1, g2, g3, g4, g5⟩, gE, -⟩ := RT_r hτ6
    have kend : KN s N4 ξ τ6 := KN_trans kξ (Nat.le_refl _) hk6
    have kend3 : KN s N3 νd τ6 := KN_trans d2 (by omega) kend
    refine b_M_statement_262 hs g0 g1 g2 g3 g4 g5 gE (Or.inl ⟨_, ⟨by omega, by omega⟩, rfl, kk t3 (sElse V i e s2 s3) hr' τ6 (N4 + 1) N4 ⟨?_, KN_trans Kν (by omega) kend3, by omega, by omega, by omega, o4, fun hn => ?_⟩⟩)
    · unfold sElse; dsimp only; rw [← Option.or_assoc, ← Option.or_assoc]; exact hτ6
    · obtain ⟨e12, e3⟩ := orN hn
      obtain ⟨e1, e2⟩ := orN e12
      rw [hkk]
      have nt : NEt s τ6 N4 384 v e := NEt_KN ((XA_KN hAν kend3 (Nat.le_refl _)).2.2.2 (xF_none e1)) KN_refl (by omega)
      exact Or.inr (Or.inr (Or.inr (Or.inl ⟨v, e, v2, s2.1, s2.2.1, v3, s3.1, s3.2.1, o0, o1, nt, o2, ⟨by omega, by omega⟩, NS_lo (by omega) k v2 (i + 1) lp s2.1 s2.2.1 (NS_mono k v2 (i + 1) lp s2.1 s2.2.1 (b7 e2) (KM_of (KL_of (KN_trans kνd (Nat.le_refl _) kend3)) b4)), o3, ⟨by omega, d4⟩, NS_lo (by omega) k v3 _ lp s3.1 s3.2.1 (NS_mono k v3 _ lp s3.1 s3.2.1 (d7 e3) (KM_of (KL_of kend) d4)), rfl, rfl⟩)))
end TmJ
