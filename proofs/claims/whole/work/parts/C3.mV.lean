/-! The reference reads STATEMENTS: while, blocks, all -/
section VmJ
variable {ω : q_W} {d s L : Nat} {K P : Nat → Int} {N : Nat → q_It} {B : Nat → Bool} {σ0 σ : q_H} {X : Nat → Nat → q_PR} {V : Nat} {t dp Nn as : Nat} {F : Option (Int × Nat)}
/-- a while -/
theorem S_whi {Kk : Int → q_H → Prop} {Kx : Nat → q_H → Prop} {n lp i : Nat} {r : q_SR} (xs : XS ω s L K P N B σ0 X V n) (hX : XO X K N B L) (c1 : K t = 43) (hdp : dp ≤ 30) (hr : (if K (t + 1) = 23 then
        if K (t + 2) = 35 then bnX (X (dp + 1) (t + 3)) (fun t1 e =>
          if K t1 = 36 then bnS (pS X K N B V n none (dp + 1) (lp + 1) (i + 2) as (t1 + 1)) (fun t2 s => some (.ok (t2, sWhi V i lp (N (t + 1)).2.1 (t + 1) e s)))
          else some (.error t1))
        else some (.error (t + 2))
      else some (.error (t + 1))) = some r) (hd : dS dp ≤ d + 1) (h : RT s L K P N B σ0 σ t dp Nn F as)
    (kx : ∀ x, r = .error x → ∀ τ, MQx s L K P N B σ0 τ x → Kx 100 τ) (kk : ∀ t' sm, r = .ok (t', sm) → ∀ (τ : q_H) (N' v : Nat), ZP s L K P N B σ0 V σ t dp Nn F i lp t' sm τ N' v → Kk (v : Int) τ) : J ω m_M_taken d 0 0 0 0 0 [(0, .ref 94)] [] σ (q_ox (q_ki (fun v τ => J ω m_M_statement (d + 1) 0 0 0 0 267 [(0, .ref 94)] [.int (zI v)] τ (q_ox (q_ki Kk) Kx))) (fun x τ => (q_ox (q_ki Kk) Kx) (.inr x) τ)) := by
  unfold dS at hd
  have ht0 := h.2.2.1
  refine r_taken (by omega) h (fun q => absurd q (by omega)) (fun _ _ _ τ hτ hk => ?_)
  obtain ⟨⟨hs, r0, r1, r2, r3, r4, r5⟩, hE, h8, h9, n1, n2, n3⟩ := RT_r hτ
  refine b_M_statement_267 hs r0 r1 r2 r3 r4 r5 hE ?_
  rw [show (264 : Int) = kmp 23 by decide]
  refine r_expect (c := 23) (by omega) hτ (by decide) (fun q τ2 hτ2 => ?_) (fun _ c23 τ2 hτ2 hk2 => ?_)
  · have c23 : K (t + 1) ≠ 23 := by
      rcases q with q | q
      · omega
      · exact q
    rw [if_neg c23] at hr
    exact Or.inr ⟨100, rfl, kx (t + 1) (Option.some.inj hr).symm τ2 hτ2⟩
  rw [if_pos c23] at hr
  obtain ⟨⟨-, r0, r1, r2, r3, r4, r5⟩, hE, h8, h9, n1', n2', n3'⟩ := RT_r hτ2
  have zz := hτ2.1.1
  obtain ⟨mN, mR, -⟩ := zz.1.2.2.2.2.2.2.2.1 (t + 1) (by omega) c23
  have z98 : ∀ {π : q_H} {t' dp' N' as' : Nat} {F' : Option (Int × Nat)}, RT s L K P N B σ0 π t' dp' N' F' as' → z π 98 (t + 1) = (N (t + 1)).2.1 := fun hπ => by
    rw [(MB_z (o := 98) hπ.1.1 ⟨by decide, by decide⟩).1, mN]
  have hk0 : 0 ≤ (N (t + 1)).2.1 ∧ (N (t + 1)).2.1 ≤ 255 := by rw [mN]; exact mR
  generalize (N (t + 1)).2.1 = kw at hr z98 hk0
  obtain ⟨k, hkk⟩ : ∃ k, 32 - dp = k + 1 := ⟨31 - dp, by omega⟩
  have hk' : 32 - (dp + 1) = k := by omega
  have K2 : KN s Nn σ τ2 := KN_trans hk (Nat.le_refl _) hk2
  have go : ∀ τ3, RT s L K P N B σ0 τ3 (t + 2) dp Nn (F.or (lpF kw (t + 1))) as → KN s Nn τ2 τ3 → J ω m_M_statement (d + 1) 0 0 0 0 293 [(0, .ref 94), (2, .int (zI ((t + 1 : Nat) : Int)))] [] τ3 (q_ox (q_ki Kk) Kx) := fun τ3 hτ3 hk3 => by
    obtain ⟨⟨-, r0, r1, r2, r3, r4, r5⟩, hE, h8, h9, n1'', n2'', n3''⟩ := RT_r hτ3
    refine b_M_statement_293 hs r0 r1 r2 r3 r4 r5 hE (r_brackets hX hdp (by unfold dB; omega) hτ3 (fun x q τ4 hτ4 => ?_) (fun t1 e c35 q c36 τ4 N2 v hτ4 hk4 m1 m2 m3 hA => ?_))
    · refine Or.inr ⟨100, rfl, kx x ?_ τ4 hτ4⟩
      rcases q with ⟨q, q2⟩ | ⟨q, q2 | ⟨e, q2, q3⟩⟩
      · rw [if_neg q] at hr; rw [q2]; exact (Option.some.inj hr).symm
      · rw [if_pos q, show X (dp + 1) (t + 3) = .error x from q2] at hr; exact (Option.some.inj hr).symm
      · rw [if_pos q, show X (dp + 1) (t + 3) = .ok (x, e) from q2] at hr
        change (if K x = 36 then _ else some (.error x)) = some r at hr
        rw [if_neg q3] at hr
        exact (Option.some.inj hr).symm
    rw [if_pos c35, show X (dp + 1) (t + 3) = .ok (t1, e) from q] at hr
    change (if K t1 = 36 then bnS (pS X K N B V n none (dp + 1) (lp + 1) (i + 2) as (t1 + 1)) (fun t2 s => some (.ok (t2, sWhi V i lp kw (t + 1) e s))) else some (.error t1)) = some r at hr
    rw [if_pos c36] at hr
    obtain ⟨⟨-, r0, r1, r2, r3, r4, r5⟩, hE, h8, h9, y1, y2, y3⟩ := RT_r hτ4
    have v1 := hA.1
    refine b_M_statement_297 hs r0 r1 r2 r3 r4 r5 hE ?_
    rw [h9, show (dp : Int) + 1 = ((dp + 1 : Nat) : Int) by omega]
    have hτd := RT_d (e := dp + 1) hτ4 (by omega)
    have kd : KN s N2 τ4 (zs τ4 94 9 ((dp + 1 : Nat) : Int)) := KN_d hs
    have Kσ : KN s Nn σ τ4 := KN_trans K2 (Nat.le_refl _) (KN_trans hk3 (Nat.le_refl _) hk4)
    generalize zs τ4 94 9 ((dp + 1 : Nat) : Int) = τd at hτd kd ⊢
    rcases bnS_some hr with ⟨x, p1, p2⟩ | ⟨t2, s2, p1, p2⟩
    · refine xs (dp + 1) (lp + 1) (i + 2) as (t1 + 1) (.error x) (by omega) p1 d τd N2 _ _ _ (by unfold dS; omega) hτd (fun y q μ hμ => ?_) (fun t' e q => by cases q)
      cases q
      exact Or.inr ⟨100, rfl, kx x p2 μ hμ⟩
    refine xs (dp + 1) (lp + 1) (i + 2) as (t1 + 1) (.ok (t2, s2)) (by omega) p1 d τd N2 _ _ _ (by unfold dS; omega) hτd (fun y q => by cases q) (fun t' e' q μ N3 v2 hμ => ?_)
    cases q
    have hr' := (Option.some.inj p2).symm
    obtain ⟨b1, b2, b3, b4, b5, b6, b7⟩ := hμ
    rw [hk'] at b7
    obtain ⟨⟨-, r0, r1, r2, r3, r4, r5⟩, hE, h8, h9, y1', y2', y3'⟩ := RT_r b1
    refine b_M_statement_312 hs r0 r1 r2 r3 r4 r5 hE ⟨⟨by omega, by omega⟩, ?_⟩
    rw [Int.toNat_natCast, z98 b1, h9, show ((dp + 1 : Nat) : Int) - 1 = (dp : Int) by omega]
    have hμd := RT_d (e := dp) b1 (by omega)
    have kμ : KN s N3 μ (zs μ 94 9 (dp : Int)) := KN_d hs
    have hAμ : XA s (zs μ 94 9 (dp : Int)) N3 384 v e := XA_KN (XA_KN (XA_KN hA kd (Nat.le_refl _)) b2 (by omega)) kμ (Nat.le_refl _)
    have Kμ : KN s Nn σ (zs μ 94 9 (dp : Int)) := KN_trans Kσ m1 (KN_trans kd (Nat.le_refl _) (KN_trans b2 (by omega) kμ))
    generalize zs μ 94 9 (dp : Int) = μd at hμd kμ hAμ Kμ ⊢
    refine r_node hμd (by omega) ⟨by decide, by decide⟩ ⟨by omega, by omega⟩ ⟨by omega, by omega⟩ ⟨by omega, by omega⟩ (fun τ6 hτ6 hk6 o0 o1 o2 o3 o4 => ?_)
    obtain ⟨⟨-, g0, g1, g2, g3, g4, g5⟩, gE, -⟩ := RT_r hτ6
    refine b_M_statement_340 hs g0 g1 g2 g3 g4 g5 gE (Or.inl ⟨_, ⟨by omega, by omega⟩, rfl, kk t2 (sWhi V i lp kw (t + 1) e s2) hr' τ6 (N3 + 1) N3 ⟨?_, KN_trans Kμ (by omega) hk6, by omega, by omega, by omega, o4, fun hn => ?_⟩⟩)
    · unfold sWhi; dsimp only; rw [← Option.or_assoc, ← Option.or_assoc]; exact hτ6
    · obtain ⟨e12, e3⟩ := orN hn
      obtain ⟨e1, e2⟩ := orN e12
      have k8 : kw ≤ 8 := by
        unfold lpF at e1
        by_cases c : 8 < kw
        · rw [if_pos c] at e1; cases e1
        · omega
      rw [hkk]
      refine Or.inr (Or.inr (Or.inr (Or.inr (Or.inl ⟨v, e, v2, s2.1, s2.2.1, o0, o1, XA_384 hAμ hk6 (xF_none e2), o2, ⟨by omega, b4⟩, NS_lo (by omega) k v2 (i + 2) (lp + 1) s2.1 s2.2.1 (NS_mono k v2 (i + 2) (lp + 1) s2.1 s2.2.1 (b7 e3) (KM_of (KL_of (KN_trans kμ (Nat.le_refl _) hk6)) b4)), by rw [o3]; exact ⟨hk0.1, k8⟩, ?_, ?_⟩))))
      · rw [o3]; rfl
      · rw [o3]; rfl
  refine b_M_statement_275 hs r0 r1 r2 r3 r4 r5 hE ?_
  rw [Int.toNat_natCast, z98 hτ2]
  refine ⟨⟨by omega, by omega⟩, fun c => go τ2 ?_ KN_refl, fun c => ?_⟩
  · unfold lpF; rw [if_neg (by omega), Option.or_none]; exact hτ2
  · have hτ2' : RT s L K P N B σ0 τ2 (t + 1 + 1) dp Nn (F.or none) as := by rw [Option.or_none]; exact hτ2
    refine r_found hτ2' (by decide) ⟨by decide, by decide⟩ (by omega) (fun x q => by have := ht0 x q; omega) (fun _ x q => by cases q) (fun τ3 hτ3 hk3 => go τ3 ?_ hk3)
    unfold lpF; rw [if_pos c]; exact hτ3
theorem RT_nx {a : Nat} {v : Int} (h : RT s L K P N B σ0 σ t dp Nn F as) : RT s L K P N B σ0 (zs σ (s + 4) a v) t dp Nn F as := by
  obtain ⟨⟨hs, -⟩, -⟩ := RT_r h
  obtain ⟨⟨hb, ⟨h8, hL⟩, h9, ⟨h44, hN⟩, hA, hw, hf⟩, hF, ht, h21, ha⟩ := h
  have o : ∀ k, z (zs σ (s + 4) a v) 94 k = z σ 94 k := fun k => z_o (by omega)
  exact RT_mk (fb := z σ 94 48) (wb := z σ 94 49) (f := none) ⟨MB_s hb (by unfold SM; simp) (fun q => absurd q (by omega)) hs, ⟨by rw [o]; exact h8, hL⟩, by rw [o]; exact h9, ⟨by rw [o]; exact h44, hN⟩, by rw [o, o]; exact hA, hw, hf⟩ (by rw [o, o]; exact hF) ht (by rw [o]; exact h21) ha
/-- the STATEMENTS of a block so far: their nodes, the first, the last -/
def CHN (N : Nat → q_It) (V s : Nat) (σ : q_H) (N0 Nn dp lp i : Nat) (a : q_Sm) (ns : List Nat) (x2 x3 : Int) : Prop :=
  ((ns = [] ∧ x3 = -1) ∨ ∃ ns' la, ns = ns' ++ [la] ∧ x3 = ((la : Nat) : Int) ∧ ∀ y, y ∈ ns' → y < la) ∧ (∀ y, y ∈ ns → N0 ≤ y ∧ y < Nn) ∧ lnk (z σ (s + 4)) ns x2 ∧ (a.2.2.1 = none → NSs (fun m i l w => NS N V s σ N0 (32 - dp) m i lp l w) ns i a.1 a.2.1)
theorem CHN_x2 {N0 lp i : Nat} {a : q_Sm} {ns : List Nat} {x2 x3 : Int} (h : CHN N V s σ N0 Nn dp lp i a ns x2 x3) : (x2 = -1 ∨ (0 ≤ x2 ∧ x2 < (Nn : Int))) ∧ (x3 = -1 ∨ (0 ≤ x3 ∧ x3 < (Nn : Int))) := by
  obtain ⟨h1, h2, h3, -⟩ := h
  constructor
  · cases ns with
    | nil => exact Or.inl h3
    | cons y ns => right; have := h2 y (by simp); have := h3.1; omega
  · rcases h1 with ⟨-, q⟩ | ⟨ns', la, q1, q2, -⟩
    · exact Or.inl q
    · right; have := h2 la (by rw [q1]; simp); omega
/-- one more -/
theorem CHN_add {N0 lp i N1 v : Nat} {a sm : q_Sm} {ns : List Nat} {x2 x3 : Int} {τ : q_H} (hs : s = 110 ∨ s = 116) (h : CHN N V s σ N0 Nn dp lp i a ns x2 x3) (hN0 : N0 ≤ Nn) (hk : KN s Nn σ τ) (hv : Nn ≤ v ∧ v < N1) (hv4 : v ≤ 4096) (h4 : z τ (s + 4) v = -1) (hn : sm.2.2.1 = none → NS N V s τ Nn (32 - dp) v (i + a.1.length) lp sm.1 sm.2.1) :
    (0 ≤ x3 → CHN N V s (zs τ (s + 4) x3.toNat (v : Int)) N0 N1 dp lp i (sApp a sm) (ns ++ [v]) x2 (v : Int) ∧ KN s N0 σ (zs τ (s + 4) x3.toNat (v : Int))) ∧ (x3 < 0 → CHN N V s τ N0 N1 dp lp i (sApp a sm) (ns ++ [v]) (v : Int) (v : Int)) := by
  obtain ⟨h1, h2, h3, h5⟩ := h
  have mem : ∀ y, y ∈ ns ++ [v] → N0 ≤ y ∧ y < N1 := fun y hy => by
    rcases List.mem_append.mp hy with q | q
    · have := h2 y q; omega
    · rw [List.mem_singleton.mp q]; omega
  have lst : (ns ++ [v] = [] ∧ (v : Int) = -1) ∨ ∃ ns' la, ns ++ [v] = ns' ++ [la] ∧ (v : Int) = ((la : Nat) : Int) ∧ ∀ y, y ∈ ns' → y < la := Or.inr ⟨ns, v, rfl, rfl, fun y hy => by have := h2 y hy; omega⟩
  refine ⟨fun c => ?_, fun c => ?_⟩
  · rcases h1 with ⟨-, q⟩ | ⟨ns', la, q1, q2, q3⟩
    · omega
    · have hla := h2 la (by rw [q1]; simp)
      rw [q2, Int.toNat_natCast]
      have o : ∀ a, a ≠ s + 4 → z (zs τ (s + 4) la (v : Int)) a = z τ a := fun a h => z_oF h
      have n4 : ∀ y, y ≠ la → z (zs τ (s + 4) la (v : Int)) (s + 4) y = z τ (s + 4) y := fun y h => z_k h
      have kk0 : KN s N0 σ (zs τ (s + 4) la (v : Int)) := fun y hy => by
        rw [o s (by omega), o (s + 1) (by omega), o (s + 2) (by omega), o (s + 3) (by omega), o (s + 5) (by omega), n4 y (by omega)]
        exact hk y (by omega)
      refine ⟨⟨lst, mem, ?_, fun hf => ?_⟩, kk0⟩
      · rw [q1] at h3 ⊢
        refine lnk_app (nx := z σ (s + 4)) (z_s ⟨by omega, by omega⟩) (by rw [n4 v (by omega)]; exact h4) ns' x2 h3 (fun y hy => ?_)
        have := q3 y hy
        rw [n4 y (by omega)]
        exact (hk y (by omega)).2.2.2.2.1
      · obtain ⟨f1, f2⟩ := orN hf
        refine NSs_app ns i a.1 a.2.1 (NSs_mono ns _ _ _ (h5 f1) (fun y hy i l w q => NS_mono _ y i lp l w q ?_)) ?_
        · have hy2 := h2 y hy
          have yla : y ≤ la := by
            rw [q1] at hy
            rcases List.mem_append.mp hy with w | w
            · have := q3 y w; omega
            · rw [List.mem_singleton.mp w]; omega
          refine ⟨fun j hj => ?_, ?_, ?_, ?_, ?_⟩
          · obtain ⟨x0, x1, x2', x3', x4, x5⟩ := hk j (by omega)
            rw [o s (by omega), o (s + 1) (by omega), o (s + 2) (by omega), o (s + 3) (by omega), o (s + 5) (by omega), n4 j (by omega)]
            exact ⟨x0, x1, x2', x3', x5, fun _ => x4⟩
          · rw [o s (by omega)]; exact (hk y (by omega)).1
          · rw [o (s + 1) (by omega)]; exact (hk y (by omega)).2.1
          · rw [o (s + 2) (by omega)]; exact (hk y (by omega)).2.2.1
          · rw [o (s + 3) (by omega)]; exact (hk y (by omega)).2.2.2.1
        · refine NS_lo (lo := Nn) hN0 _ v _ lp sm.1 sm.2.1 (NS_mono _ v _ lp sm.1 sm.2.1 (hn f2) ⟨fun j hj => ?_, ?_, ?_, ?_, ?_⟩)
          · rw [o s (by omega), o (s + 1) (by omega), o (s + 2) (by omega), o (s + 3) (by omega), o (s + 5) (by omega)]
            exact ⟨rfl, rfl, rfl, rfl, rfl, fun q => by rw [n4 j (by omega)]⟩
          · rw [o s (by omega)]
          · rw [o (s + 1) (by omega)]
          · rw [o (s + 2) (by omega)]
          · rw [o (s + 3) (by omega)]
  · rcases h1 with ⟨q1, q⟩ | ⟨ns', la, q1, q2, q3⟩
    · subst q1
      refine ⟨lst, mem, ⟨rfl, h4⟩, fun hf => ?_⟩
      obtain ⟨f1, f2⟩ := orN hf
      obtain ⟨e1, e2⟩ := h5 f1
      exact NSs_app [] i a.1 a.2.1 ⟨e1, e2⟩ (NS_lo hN0 _ v _ lp sm.1 sm.2.1 (hn f2))
    · omega
end VmJ
