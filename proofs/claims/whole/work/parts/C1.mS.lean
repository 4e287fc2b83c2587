/-! The reference reads STATEMENTS: settings and claims -/
theorem pX_go {K : Nat → Int} {N : Nat → q_It} {B : Nat → Bool} : ∀ (n l : Nat) (acc : Option q_Ex) (dp t t' : Nat) (e : q_Ex), pX K N B n l acc dp t = some (.ok (t', e)) → t ≤ t'
  | 0, _, _, _, _, _, _, h => by unfold pX at h; cases h
  | n + 1, l, some e0, dp, t, t', e, h => by
    unfold pX at h
    split at h
    · rcases bnd_some h with ⟨y, -, q⟩ | ⟨t2, e2, q1, q2⟩
      · cases q
      · have := pX_go n _ _ _ _ _ _ q1
        have := pX_go n _ _ _ _ _ _ q2
        omega
    · cases h; exact Nat.le_refl _
  | n + 1, l, none, dp, t, t', e, h => by
    unfold pX at h
    split at h
    · rcases bnd_some h with ⟨y, -, q⟩ | ⟨t1, e1, q1, q2⟩
      · cases q
      · have := pX_go n _ _ _ _ _ _ q1
        split at q2
        · rcases bnd_some q2 with ⟨y, -, q⟩ | ⟨t2, e2, r1, r2⟩
          · cases q
          · have := pX_go n _ _ _ _ _ _ r1
            split at r2
            · rcases bnd_some r2 with ⟨y, -, q⟩ | ⟨t3, e3, s1, s2⟩
              · cases q
              · have := pX_go n _ _ _ _ _ _ s1
                cases s2; omega
            · cases r2
        · cases q2; omega
    · split at h
      · rcases bnd_some h with ⟨y, -, q⟩ | ⟨t1, e1, q1, q2⟩
        · cases q
        · have := pX_go n _ _ _ _ _ _ q1
          have := pX_go n _ _ _ _ _ _ q2
          omega
      · split at h
        · cases h
        · split at h
          · rcases bnd_some h with ⟨y, -, q⟩ | ⟨t1, e1, q1, q2⟩
            · cases q
            · have := pX_go n _ _ _ _ _ _ q1
              cases q2; omega
          · split at h
            · rcases bnd_some h with ⟨y, -, q⟩ | ⟨t1, e1, q1, q2⟩
              · cases q
              · have := pX_go n _ _ _ _ _ _ q1
                split at q2
                · cases q2; omega
                · cases q2
            · split at h
              · cases h; omega
              · cases h
theorem orF_some {a b : Option Nat} {x : Nat} (h : orF a b = some x) : a = some x ∨ b = some x := by
  cases a with
  | none => exact Or.inr h
  | some y => exact Or.inl h
/-- an unknown NAME stands where the EXPR stands -/
theorem pX_flt {K : Nat → Int} {N : Nat → q_It} {B : Nat → Bool} : ∀ (n l : Nat) (acc : Option q_Ex) (dp t t' : Nat) (e : q_Ex) (x : Nat), pX K N B n l acc dp t = some (.ok (t', e)) → e.2.2.2 = some x → t ≤ t' ∧ (t ≤ x ∨ ∃ e0, acc = some e0 ∧ e0.2.2.2 = some x)
  | 0, _, _, _, _, _, _, _, h, _ => by unfold pX at h; cases h
  | n + 1, l, some e0, dp, t, t', e, x, h, hx => by
    unfold pX at h
    split at h
    · rcases bnd_some h with ⟨y, -, q⟩ | ⟨t2, e2, q1, q2⟩
      · cases q
      · have b := pX_flt n _ _ _ _ _ _ x q2 hx
        have t12 : t + 1 ≤ t2 := pX_go n _ _ _ _ _ _ q1
        refine ⟨by omega, ?_⟩
        rcases b.2 with c | ⟨e3, c1, c2⟩
        · exact Or.inl (by omega)
        · cases c1
          rcases orF_some c2 with c | c
          · exact Or.inr ⟨e0, rfl, c⟩
          · rcases (pX_flt n _ _ _ _ _ _ x q1 c).2 with c3 | ⟨e3, c3, -⟩
            · exact Or.inl (by omega)
            · cases c3
    · cases h; exact ⟨Nat.le_refl _, Or.inr ⟨e0, rfl, hx⟩⟩
  | n + 1, l, none, dp, t, t', e, x, h, hx => by
    have g := pX_go (n + 1) _ _ _ _ _ _ h
    refine ⟨g, Or.inl ?_⟩
    unfold pX at h
    split at h
    · rcases bnd_some h with ⟨y, -, q⟩ | ⟨t1, e1, q1, q2⟩
      · cases q
      · have g1 := pX_go n _ _ _ _ _ _ q1
        have f1 : e1.2.2.2 = some x → t ≤ x := fun c => by
          rcases (pX_flt n _ _ _ _ _ _ x q1 c).2 with c3 | ⟨e3, c3, -⟩
          · exact c3
          · cases c3
        split at q2
        · rcases bnd_some q2 with ⟨y, -, q⟩ | ⟨t2, e2, r1, r2⟩
          · cases q
          · have g2 := pX_go n _ _ _ _ _ _ r1
            split at r2
            · rcases bnd_some r2 with ⟨y, -, q⟩ | ⟨t3, e3, s1, s2⟩
              · cases q
              · cases s2
                rcases orF_some hx with c | c
                · exact f1 c
                · rcases orF_some c with c | c
                  · rcases (pX_flt n _ _ _ _ _ _ x r1 c).2 with c3 | ⟨e3, c3, -⟩
                    · omega
                    · cases c3
                  · rcases (pX_flt n _ _ _ _ _ _ x s1 c).2 with c3 | ⟨e3, c3, -⟩
                    · omega
                    · cases c3
            · cases r2
        · cases q2; exact f1 hx
    · split at h
      · rcases bnd_some h with ⟨y, -, q⟩ | ⟨t1, e1, q1, q2⟩
        · cases q
        · have g1 := pX_go n _ _ _ _ _ _ q1
          rcases (pX_flt n _ _ _ _ _ _ x q2 hx).2 with c | ⟨e3, c1, c2⟩
          · omega
          · cases c1
            rcases (pX_flt n _ _ _ _ _ _ x q1 c2).2 with c3 | ⟨e3, c3, -⟩
            · exact c3
            · cases c3
      · split at h
        · cases h
        · split at h
          · rcases bnd_some h with ⟨y, -, q⟩ | ⟨t1, e1, q1, q2⟩
            · cases q
            · cases q2
              rcases (pX_flt n _ _ _ _ _ _ x q1 hx).2 with c3 | ⟨e3, c3, -⟩
              · omega
              · cases c3
          · split at h
            · rcases bnd_some h with ⟨y, -, q⟩ | ⟨t1, e1, q1, q2⟩
              · cases q
              · split at q2
                · cases q2
                  rcases (pX_flt n _ _ _ _ _ _ x q1 hx).2 with c3 | ⟨e3, c3, -⟩
                  · omega
                  · cases c3
                · cases q2
            · split at h
              · cases h
                dsimp only at hx
                split at hx
                · cases hx
                · cases hx; exact Nat.le_refl _
              · cases h
def dS (dp : Nat) : Nat := 40 * (32 - dp) + 40
/-- behind a STATEMENT -/
def ZP (s L : Nat) (K P : Nat → Int) (N : Nat → q_It) (B : Nat → Bool) (σ0 : q_H) (V : Nat) (σ : q_H) (t dp Nn : Nat) (F : Option (Int × Nat)) (i lp t' : Nat) (sm : q_Sm) (τ : q_H) (N' v : Nat) : Prop :=
  RT s L K P N B σ0 τ t' dp N' (F.or sm.2.2.1) sm.2.2.2 ∧ KN s Nn σ τ ∧ Nn ≤ v ∧ v < N' ∧ N' + t ≤ Nn + t' ∧ z τ (s + 4) v = -1 ∧ (sm.2.2.1 = none → NS N V s τ Nn (32 - dp) v i lp sm.1 sm.2.1)
def XS (ω : q_W) (s L : Nat) (K P : Nat → Int) (N : Nat → q_It) (B : Nat → Bool) (σ0 : q_H) (X : Nat → Nat → q_PR) (V n : Nat) : Prop := ∀ (dp lp i as t : Nat) (r : q_SR), dp ≤ 31 → pS X K N B V n none dp lp i as t = some r → ∀ (d : Nat) (σ : q_H) (Nn : Nat) (F : Option (Int × Nat)) (Kk : Int → q_H → Prop) (Kx : Nat → q_H → Prop), dS dp ≤ d → RT s L K P N B σ0 σ t dp Nn F as →
  (∀ x, r = .error x → ∀ τ, MQx s L K P N B σ0 τ x → Kx 100 τ) → (∀ t' sm, r = .ok (t', sm) → ∀ (τ : q_H) (N' v : Nat), ZP s L K P N B σ0 V σ t dp Nn F i lp t' sm τ N' v → Kk (v : Int) τ) → J ω m_M_statement d 0 0 0 0 0 [(0, .ref 94)] [] σ (q_ox (q_ki Kk) Kx)
section SmJ
variable {ω : q_W} {d s L : Nat} {K P : Nat → Int} {N : Nat → q_It} {B : Nat → Bool} {σ0 σ : q_H} {X : Nat → Nat → q_PR} {V : Nat} {t dp Nn as : Nat} {F : Option (Int × Nat)}
theorem RT_r (h : RT s L K P N B σ0 σ t dp Nn F as) : ((s = 110 ∨ s = 116) ∧ q_r σ 94 32 = s ∧ q_r σ 94 33 = s + 1 ∧ q_r σ 94 34 = s + 2 ∧ q_r σ 94 35 = s + 3 ∧ q_r σ 94 36 = s + 4 ∧ q_r σ 94 37 = s + 5) ∧ q_E σ ∧ z σ 94 8 = (t : Int) ∧ z σ 94 9 = (dp : Int) ∧ (Nn ≤ t ∧ t ≤ L ∧ L ≤ 4096) :=
  ⟨MB_r h.1.1, h.1.1.2.1, h.1.2.1.1, h.1.2.2.1, h.1.2.2.2.1.2, h.1.2.1.2, h.1.1.1.2.1⟩
theorem XA_384 {v N' : Nat} {e : q_Ex} {τ : q_H} (h : XA s σ N' 384 v e) (g : KN s N' σ τ) (he : e.2.2.2 = none) : NEt s τ N' 384 v e := NEt_KN (h.2.2.2 he) g (Nat.le_refl _)
/-- the node of a setting -/
theorem S_131 {Kk : Int → q_H → Prop} {Kx : Nat → q_H → Prop} {v : Nat} {lk : Int} (h : RT s L K P N B σ0 σ t dp Nn F as) (hN : Nn + 1 ≤ t) (hlk : -1 ≤ lk ∧ lk < 400) (hv : v ≤ 4096)
    (kk : ∀ τ, RT s L K P N B σ0 τ t dp (Nn + 1) F as → KN s Nn σ τ → z τ s Nn = 276 → (0 ≤ lk → z τ (s + 1) Nn = z σ 104 lk.toNat ∧ z τ (s + 3) Nn = z σ 105 lk.toNat) → z τ (s + 2) Nn = (v : Int) → z τ (s + 4) Nn = -1 → Kk (Nn : Int) τ) : J ω m_M_statement (d + 1) 0 0 0 0 131 [(0, .ref 94), (3, .int (zI (v : Int))), (4, .int (zI lk))] [] σ (q_ox (q_ki Kk) Kx) := by
  obtain ⟨⟨hs, r0, r1, r2, r3, r4, r5⟩, hE, h8, h9, n1, n2, n3⟩ := RT_r h
  have fin : ∀ x2 x4 : Int, inR x2 → inR x4 → (0 ≤ lk → x2 = z σ 104 lk.toNat ∧ x4 = z σ 105 lk.toNat) → J ω m_M_node d 0 0 0 0 0 [(0, .ref 94), (1, .int (zI 276)), (2, .int (zI x2)), (3, .int (zI (v : Int))), (4, .int (zI x4))] [] σ (q_ki (fun v τ => J ω m_M_statement (d + 1) 0 0 0 0 171 [] [.int (zI v)] τ (q_ox (q_ki Kk) Kx))) := fun x2 x4 i2 i4 hq => by
    refine r_node h hN ⟨by decide, by decide⟩ i2 ⟨by omega, by omega⟩ i4 (fun τ hτ hk o0 o1 o2 o3 o4 => ?_)
    obtain ⟨⟨-, g0, g1, g2, g3, g4, g5⟩, gE, -⟩ := RT_r hτ
    exact b_M_statement_171 hs g0 g1 g2 g3 g4 g5 gE (Or.inl ⟨_, ⟨by omega, by omega⟩, rfl, kk τ hτ hk o0 (fun c => by rw [o1, o3]; exact hq c) o2 o4⟩)
  refine b_M_statement_131 hs r0 r1 r2 r3 r4 r5 hE ⟨⟨by omega, by omega⟩, fun c => ⟨⟨by omega, by omega⟩, ?_⟩, fun c => ?_⟩
  · exact b_M_statement_151 hs r0 r1 r2 r3 r4 r5 hE ⟨⟨by omega, by omega⟩, fun _ => ⟨⟨by omega, by omega⟩, fin _ _ (z_R _ _ _) (z_R _ _ _) (fun _ => ⟨rfl, rfl⟩)⟩, fun c2 => absurd c2 (by omega)⟩
  · exact b_M_statement_151 hs r0 r1 r2 r3 r4 r5 hE ⟨⟨by omega, by omega⟩, fun c2 => absurd c2 (by omega), fun _ => fin _ _ ⟨by decide, by decide⟩ ⟨by decide, by decide⟩ (fun c2 => absurd c2 (by omega))⟩
/-- a setting -/
theorem S_set {Kk : Int → q_H → Prop} {Kx : Nat → q_H → Prop} {n lp i : Nat} {r : q_SR} (hX : XO X K N B L) (c1 : K t = 30) (hdp : dp ≤ 30) (hr : (if K (t + 1) = 31 then bnX (X dp (t + 2)) (fun t1 e => if K t1 = 32 then some (.ok (t1 + 1, sSet N B t e as)) else some (.error t1)) else some (.error (t + 1))) = some r) (hd : dS dp ≤ d + 1) (h : RT s L K P N B σ0 σ t dp Nn F as)
    (kx : ∀ x, r = .error x → ∀ τ, MQx s L K P N B σ0 τ x → Kx 100 τ) (kk : ∀ t' sm, r = .ok (t', sm) → ∀ (τ : q_H) (N' v : Nat), ZP s L K P N B σ0 V σ t dp Nn F i lp t' sm τ N' v → Kk (v : Int) τ) : J ω m_M_taken d 0 0 0 0 0 [(0, .ref 94)] [] σ (q_ox (q_ki (fun v τ => J ω m_M_statement (d + 1) 0 0 0 0 68 [(0, .ref 94)] [.int (zI v)] τ (q_ox (q_ki Kk) Kx))) (fun x τ => (q_ox (q_ki Kk) Kx) (.inr x) τ)) := by
  unfold dS at hd
  have ht0 := h.2.2.1
  refine r_taken (by omega) h (fun q => absurd q (by omega)) (fun _ _ _ τ hτ hk => ?_)
  obtain ⟨⟨hs, r0, r1, r2, r3, r4, r5⟩, hE, h8, h9, n1, n2, n3⟩ := RT_r hτ
  refine b_M_statement_68 hs r0 r1 r2 r3 r4 r5 hE ?_
  rw [show (61 : Int) = kmp 31 by decide]
  refine r_expect (c := 31) (by omega) hτ (by decide) (fun q τ2 hτ2 => ?_) (fun _ c31 τ2 hτ2 hk2 => ?_)
  · have c31 : K (t + 1) ≠ 31 := by
      rcases q with q | q
      · omega
      · exact q
    rw [if_neg c31] at hr
    exact Or.inr ⟨100, rfl, kx (t + 1) (Option.some.inj hr).symm τ2 hτ2⟩
  rw [if_pos c31] at hr
  obtain ⟨⟨-, r0, r1, r2, r3, r4, r5⟩, hE, h8, h9, n1, n2, n3⟩ := RT_r hτ2
  refine b_M_statement_75 hs r0 r1 r2 r3 r4 r5 hE (r_expr hX (by omega) (by unfold dB; omega) hτ2 (fun x q τ3 hτ3 => ?_) (fun t1 e q τ3 N3 v hτ3 hk3 m1 m2 m3 hA => ?_))
  · rw [show t + 1 + 1 = t + 2 by omega] at q
    rw [q] at hr
    exact Or.inr ⟨100, rfl, kx x (Option.some.inj hr).symm τ3 hτ3⟩
  rw [show t + 1 + 1 = t + 2 by omega] at q m2 m3
  rw [q] at hr
  obtain ⟨⟨-, r0, r1, r2, r3, r4, r5⟩, hE, h8, h9, n1', n2', n3'⟩ := RT_r hτ3
  refine b_M_statement_80 hs r0 r1 r2 r3 r4 r5 hE ?_
  rw [show (59 : Int) = kmp 32 by decide]
  refine r_expect (c := 32) (by omega) hτ3 (by decide) (fun q τ4 hτ4 => ?_) (fun _ c32 τ4 hτ4 hk4 => ?_)
  · have c32 : K t1 ≠ 32 := by
      rcases q with q | q
      · omega
      · exact q
    change (if K t1 = 32 then some (.ok (t1 + 1, sSet N B t e as)) else some (.error t1)) = some r at hr
    rw [if_neg c32] at hr
    exact Or.inr ⟨100, rfl, kx t1 (Option.some.inj hr).symm τ4 hτ4⟩
  change (if K t1 = 32 then some (.ok (t1 + 1, sSet N B t e as)) else some (.error t1)) = some r at hr
  rw [if_pos c32] at hr
  have hr' := (Option.some.inj hr).symm
  obtain ⟨⟨-, r0, r1, r2, r3, r4, r5⟩, hE, h8, h9, n1'', n2'', n3''⟩ := RT_r hτ4
  have v3 := hA.1
  have zz := hτ4.1.1
  have mc := zz.1.2.2.2.2.2.2.2.2 t (by omega) c1
  have z99 : q_l τ4 99 = q_l σ0 99 := (MB_z (o := 99) zz ⟨by decide, by decide⟩).2
  have z103 : z τ4 103 = z σ0 103 := (MB_z (o := 103) zz ⟨by decide, by decide⟩).1
  have z104 : z τ4 104 = z σ0 104 := (MB_z (o := 104) zz ⟨by decide, by decide⟩).1
  have z105 : z τ4 105 = z σ0 105 := (MB_z (o := 105) zz ⟨by decide, by decide⟩).1
  have lr := fnV_R (x := q_l σ0 99 t) (g := q_l σ0 102) (n := (z σ0 94 17).toNat) 400 0
  have hlkR : -1 ≤ lkM σ0 (q_l σ0 99 t) ∧ lkM σ0 (q_l σ0 99 t) < 400 := by unfold lkM; omega
  have KA : KN s Nn σ τ4 := KN_trans hk (Nat.le_refl _) (KN_trans hk2 (Nat.le_refl _) (KN_trans hk3 m1 hk4))
  refine b_M_statement_87 hs r0 r1 r2 r3 r4 r5 hE ⟨⟨by omega, by omega⟩, ?_⟩
  rw [Int.toNat_natCast, z99]
  refine m_lookUp zz ?_
  generalize lkM σ0 (q_l σ0 99 t) = lk at mc hlkR
  have hFt : ∀ x, F = some x → x.2 ≤ t := fun x q => by have := ht0 x q; omega
  have hGt : F = none → ∀ x, xF e = some x → t < x.2 := fun hF x q2 => by
    obtain ⟨m, hm⟩ := hX dp (t + 2) (by omega)
    have hm1 : pX K N B m 0 none dp (t + 2) = some (X dp (t + 2)) := hm m (Nat.le_refl _)
    rw [q] at hm1
    unfold xF at q2
    cases he : e.2.2.2 with
    | none => rw [he] at q2; cases q2
    | some y =>
      rw [he] at q2
      cases q2
      rcases (pX_flt m 0 none dp (t + 2) t1 e y hm1 he).2 with c | ⟨e0, c, -⟩
      · show t < y; omega
      · cases c
  -- behind the fault, if any
  have fin : ∀ (τ5 : q_H) (pF : Option (Int × Nat)), pF = tgF N B t → RT s L K P N B σ0 τ5 (t1 + 1) dp N3 (F.or (pF.or (xF e))) as → KN s N3 τ4 τ5 → (pF = none → 0 ≤ lk ∧ N t = (25, z σ0 104 lk.toNat, z σ0 105 lk.toNat)) → J ω m_M_statement (d + 1) 0 0 0 0 131 [(0, .ref 94), (3, .int (zI (v : Int))), (4, .int (zI lk))] [] τ5 (q_ox (q_ki Kk) Kx) := fun τ5 pF epF hτ5 hk5 hcl => by
    have y104 : z τ5 104 = z σ0 104 := (MB_z (o := 104) hτ5.1.1 ⟨by decide, by decide⟩).1
    have y105 : z τ5 105 = z σ0 105 := (MB_z (o := 105) hτ5.1.1 ⟨by decide, by decide⟩).1
    refine S_131 hτ5 (by omega) hlkR (by omega) (fun τ6 hτ6 hk6 o0 o1 o2 o4 => kk (t1 + 1) (sSet N B t e as) hr' τ6 (N3 + 1) N3 ⟨?_, KN_trans KA (by omega) (KN_trans hk5 (Nat.le_refl _) hk6), by omega, by omega, by omega, o4, fun hn => ?_⟩)
    · unfold sSet; dsimp only; rw [← epF]; exact hτ6
    · unfold sSet at hn ⊢
      dsimp only at hn ⊢
      rw [← epF] at hn
      have pn : pF = none := by cases pF with | none => rfl | some x => cases hn
      subst pn
      obtain ⟨l0, lN⟩ := hcl rfl
      have en : e.2.2.2 = none := by
        unfold xF at hn
        cases he : e.2.2.2 with
        | none => rfl
        | some x => rw [he] at hn; cases hn
      obtain ⟨u1, u3⟩ := o1 l0
      have nt : NEt s τ6 N3 384 v e := XA_384 (XA_KN (XA_KN hA hk4 (Nat.le_refl _)) hk5 (Nat.le_refl _)) hk6 en
      obtain ⟨k, hk⟩ : ∃ k, 32 - dp = k + 1 := ⟨31 - dp, by omega⟩
      rw [hk]
      have tv : tgV N t = z τ6 (s + 1) N3 := by unfold tgV; rw [lN, if_pos rfl, u1, y104]
      rw [tv]
      exact Or.inl ⟨v, e, t, o0, o2, nt, by rw [lN, u1, u3, y104, y105], rfl, rfl⟩
  obtain ⟨⟨-, r0, r1, r2, r3, r4, r5⟩, hE, -⟩ := RT_r hτ4
  refine b_M_statement_98 hs r0 r1 r2 r3 r4 r5 hE ?_
  rw [z103]
  refine ⟨⟨by omega, by omega⟩, fun c => ⟨⟨by omega, by omega⟩, fun ci => ?_, fun ci => ?_⟩, fun c => ?_⟩
  · rcases mc with ⟨-, m, -⟩ | ⟨b1, b2, b3, b4, ⟨b5, b6⟩ | ⟨b5, b6⟩⟩
    · omega
    · exact absurd b5 ci
    · have etg : none = tgF N B t := by unfold tgF; rw [b1, b6]; rfl
      exact fin τ4 none etg hτ4 KN_refl (fun _ => ⟨c, b6⟩)
  · rcases mc with ⟨-, m, -⟩ | ⟨b1, b2, b3, b4, ⟨b5, b6⟩ | ⟨b5, b6⟩⟩
    · omega
    · have etg : some (4, t) = tgF N B t := by unfold tgF; rw [b1, b6]; rfl
      exact r_found hτ4 (by decide) ⟨by decide, by decide⟩ (by omega) hFt hGt (fun τ5 hτ5 hk5 => fin τ5 (some (4, t)) etg hτ5 hk5 (fun q => by cases q))
    · rw [b5] at ci; exact absurd ci (by decide)
  · rcases mc with ⟨b1, m, b6⟩ | ⟨b1, b2, -⟩
    · have etg : some (2, t) = tgF N B t := by unfold tgF; rw [b1]; rfl
      refine r_found hτ4 (by decide) ⟨by decide, by decide⟩ (by omega) hFt hGt (fun τ5 hτ5 hk5 => ?_)
      obtain ⟨⟨-, r0, r1, r2, r3, r4, r5⟩, hE, -⟩ := RT_r hτ5
      exact b_M_statement_111 hs r0 r1 r2 r3 r4 r5 hE (fin τ5 (some (2, t)) etg hτ5 hk5 (fun q => by cases q))
    · omega
/-- a claim -/
theorem S_cla {Kk : Int → q_H → Prop} {Kx : Nat → q_H → Prop} {lp i : Nat} {r : q_SR} (hX : XO X K N B L) (c1 : K t = 44 ∨ K t = 45) (hdp : dp ≤ 30) (hr : bnX (X dp (t + 1)) (fun t1 e => if K t1 = 32 then some (.ok (t1 + 1, sCla (K t) e as)) else some (.error t1)) = some r) (hd : dS dp ≤ d + 1) (h : RT s L K P N B σ0 σ t dp Nn F as)
    (kx : ∀ x, r = .error x → ∀ τ, MQx s L K P N B σ0 τ x → Kx 100 τ) (kk : ∀ t' sm, r = .ok (t', sm) → ∀ (τ : q_H) (N' v : Nat), ZP s L K P N B σ0 V σ t dp Nn F i lp t' sm τ N' v → Kk (v : Int) τ) {x1 : Int} (hx1 : (x1 = 261 ∧ K t = 44) ∨ (x1 = 262 ∧ K t = 45)) : J ω m_M_taken d 0 0 0 0 0 [(0, .ref 94)] [] σ (q_ox (q_ki (fun v τ => J ω m_M_statement (d + 1) 0 0 0 0 350 [(0, .ref 94), (1, .int (zI x1))] [.int (zI v)] τ (q_ox (q_ki Kk) Kx))) (fun x τ => (q_ox (q_ki Kk) Kx) (.inr x) τ)) := by
  unfold dS at hd
  refine r_taken (by omega) h (fun q => absurd q (by omega)) (fun _ _ _ τ hτ hk => ?_)
  obtain ⟨⟨hs, r0, r1, r2, r3, r4, r5⟩, hE, h8, h9, n1, n2, n3⟩ := RT_r hτ
  have h21 := hτ.2.2.2.1
  have hat := h.2.2.2.2
  have ie : x1 = 261 ↔ K t = 44 := by omega
  have fin : ∀ (τ1 : q_H) (as' : Nat), as' = (if K t = 44 then as + 1 else as) → RT s L K P N B σ0 τ1 (t + 1) dp Nn F as' → KN s Nn τ τ1 → J ω m_M_statement (d + 1) 0 0 0 0 373 [(0, .ref 94), (1, .int (zI x1)), (3, .int (zI (as : Int)))] [] τ1 (q_ox (q_ki Kk) Kx) := fun τ1 as' has hτ1 hk1 => by
    obtain ⟨⟨-, r0, r1, r2, r3, r4, r5⟩, hE, h8, h9, n1, n2, n3⟩ := RT_r hτ1
    refine b_M_statement_373 hs r0 r1 r2 r3 r4 r5 hE (r_expr hX (by omega) (by unfold dB; omega) hτ1 (fun x q τ3 hτ3 => ?_) (fun t1 e q τ3 N3 v hτ3 hk3 m1 m2 m3 hA => ?_))
    · rw [q] at hr
      exact Or.inr ⟨100, rfl, kx x (Option.some.inj hr).symm τ3 hτ3⟩
    rw [q] at hr
    change (if K t1 = 32 then some (.ok (t1 + 1, sCla (K t) e as)) else some (.error t1)) = some r at hr
    obtain ⟨⟨-, r0, r1, r2, r3, r4, r5⟩, hE, h8, h9, n1', n2', n3'⟩ := RT_r hτ3
    refine b_M_statement_377 hs r0 r1 r2 r3 r4 r5 hE ?_
    rw [show (59 : Int) = kmp 32 by decide]
    refine r_expect (c := 32) (by omega) hτ3 (by decide) (fun q τ4 hτ4 => ?_) (fun _ c32 τ4 hτ4 hk4 => ?_)
    · have c32 : K t1 ≠ 32 := by
        rcases q with q | q
        · omega
        · exact q
      rw [if_neg c32] at hr
      exact Or.inr ⟨100, rfl, kx t1 (Option.some.inj hr).symm τ4 hτ4⟩
    rw [if_pos c32] at hr
    have hr' := (Option.some.inj hr).symm
    obtain ⟨⟨-, r0, r1, r2, r3, r4, r5⟩, hE, h8, h9, n1'', n2'', n3''⟩ := RT_r hτ4
    have v3 := hA.1
    have KA : KN s Nn σ τ4 := KN_trans hk (Nat.le_refl _) (KN_trans hk1 (Nat.le_refl _) (KN_trans hk3 m1 hk4))
    refine b_M_statement_385 hs r0 r1 r2 r3 r4 r5 hE (r_node hτ4 (by omega) ⟨by omega, by omega⟩ ⟨by omega, by omega⟩ ⟨by omega, by omega⟩ ⟨by decide, by decide⟩ (fun τ6 hτ6 hk6 o0 o1 o2 o3 o4 => ?_))
    obtain ⟨⟨-, g0, g1, g2, g3, g4, g5⟩, gE, -⟩ := RT_r hτ6
    refine b_M_statement_395 hs g0 g1 g2 g3 g4 g5 gE (Or.inl ⟨_, ⟨by omega, by omega⟩, rfl, kk (t1 + 1) (sCla (K t) e as) hr' τ6 (N3 + 1) N3 ⟨?_, KN_trans KA (by omega) hk6, by omega, by omega, by omega, o4, fun hn => ?_⟩⟩)
    · unfold sCla; dsimp only; rw [← has]; exact hτ6
    · unfold sCla at hn ⊢
      dsimp only at hn ⊢
      have en : e.2.2.2 = none := by
        unfold xF at hn
        cases he : e.2.2.2 with
        | none => rfl
        | some x => rw [he] at hn; cases hn
      have nt : NEt s τ6 N3 384 v e := XA_384 (XA_KN hA hk4 (Nat.le_refl _)) hk6 en
      obtain ⟨k, hk⟩ : ∃ k, 32 - dp = k + 1 := ⟨31 - dp, by omega⟩
      rw [hk]
      have el : (if K t = 44 then (2 : Int) else 3) = (if z τ6 s N3 = 261 then 2 else 3) := by
        rw [o0]
        by_cases c : K t = 44
        · rw [if_pos c, if_pos (ie.mpr c)]
        · rw [if_neg c, if_neg (fun q => c (ie.mp q))]
      rw [el, ← o2]
      exact Or.inr (Or.inl ⟨v, e, by rw [o0]; omega, o1, nt, rfl, rfl⟩)
  refine b_M_statement_350 hs r0 r1 r2 r3 r4 r5 hE ?_
  rw [h21]
  refine ⟨⟨by omega, by omega⟩, fun c => fin τ as (by rw [if_neg (fun q => c (ie.mpr q))]) hτ KN_refl, fun c => ?_⟩
  have c44 := ie.mp c
  refine fin _ (as + 1) (by rw [if_pos c44]) ?_ (KN_d hs)
  obtain ⟨hM, hF, hFt, -, -⟩ := hτ
  obtain ⟨hb, ⟨k8, kL⟩, k9, ⟨k44, kN⟩, kA, kw, kf⟩ := hM
  have o94 : ∀ j, j ≠ 21 → z (zs τ 94 21 ((as : Int) + 1)) 94 j = z τ 94 j := fun j a => z_k a
  refine RT_mk (fb := z τ 94 48) (wb := z τ 94 49) (f := none) ⟨MB_s hb (by unfold SM; simp) (fun _ => by simp) hs, ⟨by rw [o94 8 (by decide)]; exact k8, kL⟩, by rw [o94 9 (by decide)]; exact k9, ⟨by rw [o94 44 (by decide)]; exact k44, kN⟩, by rw [o94 48 (by decide), o94 49 (by decide)]; exact kA, kw, kf⟩ (by rw [o94 48 (by decide), o94 49 (by decide)]; exact hF) hFt ?_ (by omega)
  rw [z_s ⟨by omega, by omega⟩]; omega
end SmJ
