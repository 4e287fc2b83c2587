section RfP
variable {ω : q_W} {d s L : Nat} {K P v : Nat → Int} {C : Nat → Int64} {σ00 σ : q_H} {D : q_Ds} {t : Nat}
theorem m_declaration {Kk : q_H → Prop} {Kx : Nat → q_H → Prop} (hd : 4 ≤ d) (h : RD s L K P v C σ00 σ t D) (hk : K t = 39 ∨ K t = 40)
    (kx : ∀ y τ, ((K (t + 1) ≠ 30 ∧ y = t + 1) ∨ (K (t + 1) = 30 ∧ ((K (t + 2) ≠ 33 ∧ y = t + 2) ∨ (K (t + 2) = 33 ∧ ((K (t + 3) ≠ 23 ∧ y = t + 3) ∨ (K (t + 3) = 23 ∧ K (t + 4) ≠ 32 ∧ y = t + 4)))))) → WE s σ00 τ → z τ 94 10 = P y → Kx 100 τ)
    (k1 : K (t + 1) = 30 → K (t + 2) = 33 → K (t + 3) = 23 → K (t + 4) = 32 → ∀ τ, RD s L K P v C σ00 τ (t + 5) (dAdd K v C t D) → Kk τ) : J ω m_M_declaration d 0 0 0 0 0 [(0, .ref 94)] [] σ (q_ox (q_kv Kk) Kx) := by
  obtain ⟨d, rfl⟩ : ∃ k, d = k + 1 := ⟨d - 1, by omega⟩
  obtain ⟨hw, hm, hp, hr, hC, hRT⟩ := id h
  have exc : ∀ y τ, ((K (t + 1) ≠ 30 ∧ y = t + 1) ∨ (K (t + 1) = 30 ∧ ((K (t + 2) ≠ 33 ∧ y = t + 2) ∨ (K (t + 2) = 33 ∧ ((K (t + 3) ≠ 23 ∧ y = t + 3) ∨ (K (t + 3) = 23 ∧ K (t + 4) ≠ 32 ∧ y = t + 4)))))) → MQx s L K P (NR K v σ) (BR K σ) σ τ y → q_ox (q_kv Kk) Kx (.inr 100) τ := fun y τ hy hq => Or.inr ⟨100, rfl, kx y τ hy (WE_MB hw hq.1) hq.2⟩
  -- behind the five TOKENS
  have g51 : K (t + 1) = 30 → K (t + 2) = 33 → K (t + 3) = 23 → K (t + 4) = 32 → ∀ (τ : q_H) (x1 y0 : Int), x1 = (if K t = 39 then 1 else 0) → RT s L K P (NR K v σ) (BR K σ) σ τ (t + 5) 0 0 D.2.2 0 → J ω m_M_declaration (d + 1) 0 0 0 0 51 [(0, .ref 94), (1, .int (zI x1)), (3, .int (zI ((t + 1 : Nat) : Int))), (4, .int (zI ((t + 3 : Nat) : Int)))] [.int (zI y0)] τ (q_ox (q_kv Kk) Kx) := fun t1 t2 t3 t4 τ x1 y0 hx1 hT => by
    have fin := k1 t1 t2 t3 t4
    have hpN : DP K C (t + 5) (dAdd K v C t D) := DP_add hp t1
    obtain ⟨⟨hs, r0, r1, r2, r3, r4, r5⟩, hE, -, -, n1, n2, n3⟩ := RT_r hT
    have hb := hT.1.1
    have l99 : q_l τ 99 = q_l σ 99 := (MB_z (o := 99) hb ⟨by decide, by decide⟩).2
    have z98 : z τ 98 = z σ 98 := (MB_z (o := 98) hb ⟨by decide, by decide⟩).1
    obtain ⟨v3, v4⟩ := hm.2.2.2.2.2.2 (t + 3) (by omega) t3
    have dp := DR_dup (L := L) hr hp hC ⟨t1, by omega⟩ (by omega : t ≤ L)
    refine b_M_declaration_51 hs r0 r1 r2 r3 r4 r5 hE ⟨⟨by omega, by omega⟩, ?_⟩
    rw [Int.toNat_natCast, l99]
    refine m_lookUp hb ?_
    have tb := DR_TB hr hp
    have lR := DR_lk hr hp (q_l σ 99 (t + 1))
    have lR2 : lkM σ (q_l σ 99 (t + 1)) = -1 ∨ (0 ≤ lkM σ (q_l σ 99 (t + 1)) ∧ lkM σ (q_l σ 99 (t + 1)) < 400) := by
      have := tb.2.1
      rcases lR with ⟨q, -⟩ | ⟨k, q1, q2, -⟩
      · exact Or.inl q
      · right; omega
    clear lR
    generalize lkM σ (q_l σ 99 (t + 1)) = F at dp lR2
    -- the end without a table
    have nt : ∀ (k : Int) (y : Nat) (ρ : q_H), RT s L K P (NR K v σ) (BR K σ) σ ρ (t + 5) 0 0 (D.2.2.or (some (k, y))) 0 → dAdd K v C t D = (D.1, D.2.1, D.2.2.or (some (k, y))) → Kk ρ := fun k y ρ hρ he => fin ρ (RD_same h hρ he hpN)
    have ret : ∀ ρ, Kk ρ → q_ox (q_kv Kk) Kx (.inl none) ρ := fun ρ hρ => Or.inl ⟨rfl, hρ⟩
    have old : ∀ x, D.2.2 = some x → x.2 ≤ t := fun x hx => by have := hp.2.2.2.2.2.2 x hx; omega
    -- FAULT 5
    have f5 : ∀ (ρ : q_H) (x5 : Int) (G : Option (Int × Nat)), RT s L K P (NR K v σ) (BR K σ) σ ρ (t + 5) 0 0 (D.2.2.or G) 0 → (∀ x, (D.2.2.or G) = some x → x.2 ≤ t + 3) → (x5 ≠ 0 ∧ G = some (3, t + 1) ∨ x5 = 0 ∧ G = none) → inR x5 → dAdd K v C t D = (D.1, D.2.1, (D.2.2.or G).or (some (5, t + 3))) → J ω m_M_found d 0 0 0 0 0 [(0, .ref 94), (1, .int (zI 5)), (2, .int (zI ((t + 3 : Nat) : Int)))] [] ρ (q_kv (fun τ => J ω m_M_declaration (d + 1) 0 0 0 0 125 [(0, .ref 94), (1, .int (zI x1)), (3, .int (zI ((t + 1 : Nat) : Int))), (4, .int (zI ((t + 3 : Nat) : Int))), (5, .int (zI x5)), (6, .int (zI 0))] [] τ (q_ox (q_kv Kk) Kx))) := fun ρ x5 G hρ hb3 hc5 i5 he => by
      refine r_found (F0 := D.2.2.or G) (G := none) (k := 5) (y := t + 3) (by rw [Option.or_none]; exact hρ) (by decide) ⟨by decide, by decide⟩ (by omega) hb3 (fun _ x q => by cases q) (fun ρ2 hρ2 _ => ?_)
      obtain ⟨⟨-, r0, r1, r2, r3, r4, r5⟩, hE, -⟩ := RT_r hρ2
      have kf : Kk ρ2 := fin ρ2 (RD_same h hρ2 he hpN)
      refine b_M_declaration_125 hs r0 r1 r2 r3 r4 r5 hE ⟨i5, fun _ => ret ρ2 kf, fun _ => ⟨⟨by decide, by decide⟩, fun c => absurd rfl c, fun _ => ret ρ2 kf⟩⟩
    have g100 : ∀ (x5 y : Int), (x5 = 0 ∧ F = -1 ∨ x5 = 1 ∧ F ≠ -1) → (y = 0 ∧ (v (t + 3) < 1 ∨ 8 < v (t + 3)) ∨ y = 1 ∧ ¬ (v (t + 3) < 1 ∨ 8 < v (t + 3))) → J ω m_M_declaration (d + 1) 0 0 0 0 100 [(0, .ref 94), (1, .int (zI x1)), (3, .int (zI ((t + 1 : Nat) : Int))), (4, .int (zI ((t + 3 : Nat) : Int))), (5, .int (zI x5))] [.int (zI y)] τ (q_ox (q_kv Kk) Kx) := fun x5 y h5 hy => by
      rcases h5 with ⟨e5, eF⟩ | ⟨e5, eF⟩
      · have nd : ¬ (dupB C D.1 (t + 1) || dupB C D.2.1 (t + 1)) = true := by rw [dp.mp eF]; decide
        refine b_M_declaration_100 hs r0 r1 r2 r3 r4 r5 hE ⟨⟨by omega, by omega⟩, fun _ => ⟨⟨by omega, by omega⟩, fun c => ?_, fun c => ?_⟩, fun c => absurd e5 c⟩
        · -- a new one
          have nb : ¬ (v (t + 3) < 1 ∨ 8 < v (t + 3)) := by
            rcases hy with ⟨a, -⟩ | ⟨-, b⟩
            · exact absurd a c
            · exact b
          obtain ⟨w, hw'⟩ : ∃ w : Nat, v (t + 3) = (w : Int) := ⟨(v (t + 3)).toNat, by omega⟩
          have hwn : (v (t + 3)).toNat = w := by omega
          have dE : dAdd K v C t D = if K t = 39 then (if 12 < bts D.1 + w then (D.1, D.2.1, D.2.2.or (some (6, t + 1))) else (D.1 ++ [(t + 1, w)], D.2.1, D.2.2)) else if 12 ≤ D.2.1.length then (D.1, D.2.1, D.2.2.or (some (6, t + 1))) else (D.1, D.2.1 ++ [(t + 1, w)], D.2.2) := by
            unfold dAdd
            rw [if_neg nd, if_neg nb, hwn]
          have k94 := hb.2.2.2
          obtain ⟨⟨h17, h18, h19, h20⟩, -⟩ := id hr
          have a17 : z τ 94 17 = ((D.1.length + D.2.1.length : Nat) : Int) := (k94 17 (by decide)).trans h17
          have a18 : z τ 94 18 = (D.1.length : Int) := (k94 18 (by decide)).trans h18
          have a19 : z τ 94 19 = (D.2.1.length : Int) := (k94 19 (by decide)).trans h19
          have a20 : z τ 94 20 = (bts D.1 : Int) := (k94 20 (by decide)).trans h20
          have l12 := hp.1
          have l12' := hp.2.1
          have hrτ : DR D τ := by
            have := (RD_same (D' := D) h hT rfl (by
              obtain ⟨p1, p2, p3, p4, p5, p6, p7⟩ := hp
              exact ⟨p1, p2, fun e he => ⟨(p3 e he).1, (p3 e he).2.1, by have := (p3 e he).2.2; omega⟩, p4, p5, p6, fun x hx => by have := p7 x hx; omega⟩)).2.2.2.1
            exact this
          have f6 : dAdd K v C t D = (D.1, D.2.1, D.2.2.or (some (6, t + 1))) → J ω m_M_found d 0 0 0 0 0 [(0, .ref 94), (1, .int (zI 6)), (2, .int (zI ((t + 1 : Nat) : Int)))] [] τ (q_kv (fun τ => J ω m_M_declaration (d + 1) 0 0 0 0 176 [] [] τ (q_ox (q_kv Kk) Kx))) := fun he => by
            refine r_found (F0 := D.2.2) (G := none) (k := 6) (y := t + 1) (by rw [Option.or_none]; exact hT) (by decide) ⟨by decide, by decide⟩ (by omega) (fun x hx => by have := old x hx; omega) (fun _ x q => by cases q) (fun ρ2 hρ2 _ => ?_)
            obtain ⟨⟨-, r0, r1, r2, r3, r4, r5⟩, hE, -⟩ := RT_r hρ2
            exact b_M_declaration_176 hs r0 r1 r2 r3 r4 r5 hE (ret ρ2 (nt 6 (t + 1) ρ2 hρ2 he))
          have hy1 : y = 1 := by omega
          subst hy1 e5
          refine b_M_declaration_125 hs r0 r1 r2 r3 r4 r5 hE ⟨⟨by decide, by decide⟩, fun c => absurd rfl c, fun _ => ⟨⟨by decide, by decide⟩, fun _ => ⟨by rw [hx1]; split <;> exact ⟨by decide, by decide⟩, fun cv => ?_, fun ci => ?_⟩, fun c => absurd c (by decide)⟩⟩
          · have nk : ¬ K t = 39 := fun q => by rw [if_pos q] at hx1; omega
            rw [if_neg nk] at dE
            rw [a19]
            refine ⟨fun c12 => ?_, fun c12 => f6 (by rw [dE, if_pos (by omega)])⟩
            rw [if_neg (by omega)] at dE
            refine b_M_declaration_177 hs r0 r1 r2 r3 r4 r5 hE ?_
            rw [a17, Int.toNat_natCast, Int.toNat_natCast]
            refine ⟨⟨by omega, by omega⟩, ⟨by omega, by omega⟩, ⟨by omega, by omega⟩, fun _ => ?_, fun c => absurd cv c⟩
            have E1 : q_E (zt τ 102 (D.1.length + D.2.1.length) (q_l τ 99 (t + 1))) := zt_E hE
            refine b_M_declaration_209 hs r0 r1 r2 r3 r4 r5 E1 ?_
            rw [z_t, z_t, a19, a17, Int.toNat_natCast]
            refine ⟨⟨by omega, by omega⟩, ⟨by omega, by omega⟩, fun _ => ?_, fun c => absurd cv c⟩
            have E2 : q_E (zs (zt τ 102 (D.1.length + D.2.1.length) (q_l τ 99 (t + 1))) 103 (D.1.length + D.2.1.length) 0) := zs_E E1
            refine b_M_declaration_233 hs r0 r1 r2 r3 r4 r5 E2 ?_
            have q17 : z (zs (zt τ 102 (D.1.length + D.2.1.length) (q_l τ 99 (t + 1))) 103 (D.1.length + D.2.1.length) 0) 94 17 = ((D.1.length + D.2.1.length : Nat) : Int) := by rw [z_o (by decide), z_t]; exact a17
            have q19 : z (zs (zt τ 102 (D.1.length + D.2.1.length) (q_l τ 99 (t + 1))) 103 (D.1.length + D.2.1.length) 0) 94 19 = (D.2.1.length : Int) := by rw [z_o (by decide), z_t]; exact a19
            have q98 : z (zs (zt τ 102 (D.1.length + D.2.1.length) (q_l τ 99 (t + 1))) 103 (D.1.length + D.2.1.length) 0) 98 (t + 3) = (w : Int) := by rw [z_o (by decide), z_t, z98, v3]; exact hw'
            rw [q17, q19, Int.toNat_natCast, Int.toNat_natCast, Int.toNat_natCast, q98]
            refine ⟨⟨by omega, by omega⟩, ⟨by omega, by omega⟩, ⟨by omega, by omega⟩, ⟨by omega, by omega⟩, fun _ => ⟨⟨by omega, by omega⟩, ret _ (fin _ (RD_new h hT (by rw [dE]) hpN ?_ (fr_s (fr_s (fr_s (fr_s (fr_s (fr_s (fr_t fr_refl (by simp)) (by simp)) (by simp)) (by simp)) (by simp)) (by simp)) (by simp)) (fun k hk => ?_)))⟩, fun c => absurd cv c⟩
            · rw [dE]
              refine DR_addV (τ := τ) hrτ ?_ ?_ ?_ ?_ ?_ ?_ ?_ ?_ ?_ ?_ ?_
              · rw [z_k (by decide), z_o (by decide), z_s ⟨by omega, by omega⟩]
              · rw [z_k (by decide), z_o (by decide), z_k (by decide), z_o (by decide), z_o (by decide), z_o (by decide), z_t]
              · rw [z_s ⟨by omega, by omega⟩]
              · rw [z_k (by decide), z_o (by decide), z_k (by decide), z_o (by decide), z_o (by decide), z_o (by decide), z_t]
              · rw [z_oF (by decide), z_oF (by decide), z_oF (by decide), z_oF (by decide), z_oF (by decide), z_up ⟨by decide, by decide⟩, z_tF]
              · rw [z_oF (by decide), z_oF (by decide), z_oF (by decide), z_oF (by decide), z_up ⟨by omega, by omega⟩, z_oF (by decide), z_tF]
              · rw [z_oF (by decide), z_oF (by decide), z_oF (by decide), z_up ⟨by omega, by omega⟩, z_oF (by decide), z_oF (by decide), z_tF]
              · show q_row (q_l τ) 102 (q_row (q_l τ 102) (D.1.length + D.2.1.length) (q_l τ 99 (t + 1))) 102 = _
                exact q_row_s _ _ _
              · show q_row (q_l τ) 102 (q_row (q_l τ 102) (D.1.length + D.2.1.length) (q_l τ 99 (t + 1))) 99 = q_l τ 99
                exact q_row_n _ _ (by decide)
              · rw [z_oF (by decide), z_oF (by decide), z_oF (by decide), z_oF (by decide), z_oF (by decide), z_oF (by decide), z_tF]
              · rw [z_oF (by decide), z_up ⟨by omega, by omega⟩, z_oF (by decide), z_oF (by decide), z_oF (by decide), z_oF (by decide), z_tF]
            · simp at hk
              rw [z_k (by omega), z_o (by decide), z_k (by omega), z_o (by decide), z_o (by decide), z_o (by decide), z_t]
          · have nk : K t = 39 := Decidable.byContradiction fun q => by rw [if_neg q] at hx1; exact ci hx1
            rw [if_pos nk] at dE
            rw [a20, Int.toNat_natCast, z98, v3, hw']
            refine ⟨⟨by omega, by omega⟩, ⟨by omega, by omega⟩, fun c12 => ?_, fun c12 => f6 (by rw [dE, if_pos (by omega)])⟩
            rw [if_neg (by omega)] at dE
            refine b_M_declaration_177 hs r0 r1 r2 r3 r4 r5 hE ?_
            rw [a17, Int.toNat_natCast, Int.toNat_natCast]
            refine ⟨⟨by omega, by omega⟩, ⟨by omega, by omega⟩, by rw [hx1]; split <;> exact ⟨by decide, by decide⟩, fun c => absurd c ci, fun _ => ?_⟩
            have E1 : q_E (zt τ 102 (D.1.length + D.2.1.length) (q_l τ 99 (t + 1))) := zt_E hE
            refine b_M_declaration_209 hs r0 r1 r2 r3 r4 r5 E1 ?_
            rw [z_t, z_t, z_t, a18, a17, Int.toNat_natCast]
            refine ⟨⟨by omega, by omega⟩, by rw [hx1]; split <;> exact ⟨by decide, by decide⟩, fun c => absurd c ci, fun _ => ?_⟩
            have E2 : q_E (zs (zt τ 102 (D.1.length + D.2.1.length) (q_l τ 99 (t + 1))) 103 (D.1.length + D.2.1.length) 1) := zs_E E1
            refine b_M_declaration_233 hs r0 r1 r2 r3 r4 r5 E2 ?_
            have q17 : z (zs (zt τ 102 (D.1.length + D.2.1.length) (q_l τ 99 (t + 1))) 103 (D.1.length + D.2.1.length) 1) 94 17 = ((D.1.length + D.2.1.length : Nat) : Int) := by rw [z_o (by decide), z_t]; exact a17
            have q18 : z (zs (zt τ 102 (D.1.length + D.2.1.length) (q_l τ 99 (t + 1))) 103 (D.1.length + D.2.1.length) 1) 94 18 = (D.1.length : Int) := by rw [z_o (by decide), z_t]; exact a18
            have q20 : z (zs (zt τ 102 (D.1.length + D.2.1.length) (q_l τ 99 (t + 1))) 103 (D.1.length + D.2.1.length) 1) 94 20 = (bts D.1 : Int) := by rw [z_o (by decide), z_t]; exact a20
            have q98 : z (zs (zt τ 102 (D.1.length + D.2.1.length) (q_l τ 99 (t + 1))) 103 (D.1.length + D.2.1.length) 1) 98 (t + 3) = (w : Int) := by rw [z_o (by decide), z_t, z98, v3]; exact hw'
            rw [q17, q18, q20, Int.toNat_natCast, Int.toNat_natCast, Int.toNat_natCast, q98]
            refine ⟨⟨by omega, by omega⟩, ⟨by omega, by omega⟩, ⟨by omega, by omega⟩, by rw [hx1]; split <;> exact ⟨by decide, by decide⟩, fun c => absurd c ci, fun _ => ⟨⟨by omega, by omega⟩, ret _ (fin _ (RD_new h hT (by rw [dE]) hpN ?_ (fr_s (fr_s (fr_s (fr_s (fr_s (fr_s (fr_s (fr_t fr_refl (by simp)) (by simp)) (by simp)) (by simp)) (by simp)) (by simp)) (by simp)) (by simp)) (fun k hk => ?_)))⟩⟩
            · rw [dE]
              refine DR_addI (τ := τ) hrτ ?_ ?_ ?_ ?_ ?_ ?_ ?_ ?_ ?_ ?_ ?_
              · rw [z_k (by decide), z_o (by decide), z_k (by decide), z_s ⟨by omega, by omega⟩]
              · rw [z_s ⟨by omega, by omega⟩]
              · rw [z_k (by decide), z_o (by decide), z_k (by decide), z_k (by decide), z_o (by decide), z_o (by decide), z_o (by decide), z_t]
              · rw [z_k (by decide), z_o (by decide), z_s ⟨by omega, by omega⟩]
              · rw [z_oF (by decide), z_oF (by decide), z_oF (by decide), z_oF (by decide), z_oF (by decide), z_oF (by decide), z_up ⟨by decide, by decide⟩, z_tF]
              · rw [z_oF (by decide), z_oF (by decide), z_oF (by decide), z_oF (by decide), z_oF (by decide), z_up ⟨by omega, by omega⟩, z_oF (by decide), z_tF]
              · rw [z_oF (by decide), z_oF (by decide), z_oF (by decide), z_oF (by decide), z_up ⟨by omega, by omega⟩, z_oF (by decide), z_oF (by decide), z_tF]
              · show q_row (q_l τ) 102 (q_row (q_l τ 102) (D.1.length + D.2.1.length) (q_l τ 99 (t + 1))) 102 = _
                exact q_row_s _ _ _
              · show q_row (q_l τ) 102 (q_row (q_l τ 102) (D.1.length + D.2.1.length) (q_l τ 99 (t + 1))) 99 = q_l τ 99
                exact q_row_n _ _ (by decide)
              · rw [z_oF (by decide), z_up ⟨by omega, by omega⟩, z_oF (by decide), z_oF (by decide), z_oF (by decide), z_oF (by decide), z_oF (by decide), z_tF]
              · rw [z_oF (by decide), z_oF (by decide), z_oF (by decide), z_oF (by decide), z_oF (by decide), z_oF (by decide), z_oF (by decide), z_tF]
            · simp at hk
              rw [z_k (by omega), z_o (by decide), z_k (by omega), z_k (by omega), z_o (by decide), z_o (by decide), z_o (by decide), z_t]
        · have hb5 : v (t + 3) < 1 ∨ 8 < v (t + 3) := by
            rcases hy with ⟨-, b⟩ | ⟨a, -⟩
            · exact b
            · omega
          subst c
          refine f5 τ x5 none (by rw [Option.or_none]; exact hT) (fun x hx => by rw [Option.or_none] at hx; have := old x hx; omega) (Or.inr ⟨e5, rfl⟩) ⟨by omega, by omega⟩ ?_
          unfold dAdd
          rw [if_neg nd, if_pos hb5, Option.or_none]
      · have du : (dupB C D.1 (t + 1) || dupB C D.2.1 (t + 1)) = true := by
          have : ¬ (dupB C D.1 (t + 1) || dupB C D.2.1 (t + 1)) = false := fun q => eF (dp.mpr q)
          revert this
          cases (dupB C D.1 (t + 1) || dupB C D.2.1 (t + 1)) <;> simp
        have dE : dAdd K v C t D = (D.1, D.2.1, D.2.2.or (some (3, t + 1))) := by
          unfold dAdd; rw [if_pos du]
        subst e5
        refine b_M_declaration_100 hs r0 r1 r2 r3 r4 r5 hE ⟨⟨by decide, by decide⟩, fun c => absurd c (by decide), fun _ => ?_⟩
        refine r_found (F0 := D.2.2) (G := none) (k := 3) (y := t + 1) (by rw [Option.or_none]; exact hT) (by decide) ⟨by decide, by decide⟩ (by omega) (fun x hx => by have := old x hx; omega) (fun _ x q => by cases q) (fun ρ2 hρ2 _ => ?_)
        obtain ⟨⟨-, r0, r1, r2, r3, r4, r5⟩, hE, -⟩ := RT_r hρ2
        refine b_M_declaration_113 hs r0 r1 r2 r3 r4 r5 hE ⟨⟨by omega, by omega⟩, fun c => ?_, fun c => ?_⟩
        · have kf := nt 3 (t + 1) ρ2 hρ2 dE
          exact b_M_declaration_125 hs r0 r1 r2 r3 r4 r5 hE ⟨⟨by decide, by decide⟩, fun _ => ret ρ2 kf, fun c => absurd c (by decide)⟩
        · subst c
          refine f5 ρ2 1 (some (3, t + 1)) hρ2 (fun x hx => ?_) (Or.inl ⟨by decide, rfl⟩) ⟨by decide, by decide⟩ (by rw [Option.or_assoc]; exact dE)
          cases q : D.2.2 with
          | none => rw [q] at hx; cases hx; show t + 1 ≤ t + 3; omega
          | some u => rw [q] at hx; cases hx; have := old x q; omega
    have g70 : ∀ x5 : Int, (x5 = 0 ∧ F = -1 ∨ x5 = 1 ∧ F ≠ -1) → J ω m_M_declaration (d + 1) 0 0 0 0 70 [(0, .ref 94), (1, .int (zI x1)), (3, .int (zI ((t + 1 : Nat) : Int))), (4, .int (zI ((t + 3 : Nat) : Int)))] [.int (zI x5)] τ (q_ox (q_kv Kk) Kx) := fun x5 h5 => by
      refine b_M_declaration_70 hs r0 r1 r2 r3 r4 r5 hE ?_
      rw [Int.toNat_natCast, z98, v3]
      exact ⟨⟨by omega, by omega⟩, fun c => g100 x5 0 h5 (Or.inl ⟨rfl, Or.inl c⟩), fun c => ⟨fun c8 => g100 x5 0 h5 (Or.inl ⟨rfl, Or.inr c8⟩), fun c8 => g100 x5 1 h5 (Or.inr ⟨rfl, by omega⟩)⟩⟩
    refine b_M_declaration_62 hs r0 r1 r2 r3 r4 r5 hE ⟨by rcases lR2 with q | q; (rw [q]; exact ⟨by decide, by decide⟩); exact ⟨by omega, by omega⟩, fun c => g70 0 (Or.inl ⟨rfl, by omega⟩), fun c => g70 1 (Or.inr ⟨rfl, by omega⟩)⟩
  have g15 : ∀ x1 : Int, x1 = (if K t = 39 then 1 else 0) → J ω m_M_declaration (d + 1) 0 0 0 0 15 [(0, .ref 94)] [.int (zI x1)] σ (q_ox (q_kv Kk) Kx) := fun x1 hx1 => by
    obtain ⟨⟨hs, r0, r1, r2, r3, r4, r5⟩, hE, -⟩ := RT_r hRT
    refine b_M_declaration_15 hs r0 r1 r2 r3 r4 r5 hE (r_taken (by omega) hRT (fun q => absurd q (by omega)) (fun _ _ _ τ1 hτ1 _ => ?_))
    obtain ⟨⟨-, r0, r1, r2, r3, r4, r5⟩, hE, -⟩ := RT_r hτ1
    refine b_M_declaration_20 hs r0 r1 r2 r3 r4 r5 hE (r_expect (c := 30) (by omega) hτ1 ⟨by decide, by decide⟩ (fun q τ hτ => exc (t + 1) τ (Or.inl ⟨by omega, rfl⟩) hτ) (fun _ t1 τ2 hτ2 _ => ?_))
    obtain ⟨⟨-, r0, r1, r2, r3, r4, r5⟩, hE, -⟩ := RT_r hτ2
    refine b_M_declaration_28 hs r0 r1 r2 r3 r4 r5 hE (r_expect (c := 33) (by omega) hτ2 ⟨by decide, by decide⟩ (fun q τ hτ => exc (t + 2) τ (Or.inr ⟨t1, Or.inl ⟨q.resolve_left (by decide), rfl⟩⟩) hτ) (fun _ t2 τ3 hτ3 _ => ?_))
    obtain ⟨⟨-, r0, r1, r2, r3, r4, r5⟩, hE, -⟩ := RT_r hτ3
    refine b_M_declaration_35 hs r0 r1 r2 r3 r4 r5 hE (r_expect (c := 23) (by omega) hτ3 ⟨by decide, by decide⟩ (fun q τ hτ => exc (t + 3) τ (Or.inr ⟨t1, Or.inr ⟨t2, Or.inl ⟨q.resolve_left (by decide), rfl⟩⟩⟩) hτ) (fun _ t3 τ4 hτ4 _ => ?_))
    obtain ⟨⟨-, r0, r1, r2, r3, r4, r5⟩, hE, -⟩ := RT_r hτ4
    refine b_M_declaration_43 hs r0 r1 r2 r3 r4 r5 hE (r_expect (c := 32) (by omega) hτ4 ⟨by decide, by decide⟩ (fun q τ hτ => exc (t + 4) τ (Or.inr ⟨t1, Or.inr ⟨t2, Or.inr ⟨t3, q.resolve_left (by decide), rfl⟩⟩⟩) hτ) (fun _ t4 τ5 hτ5 _ => ?_))
    exact g51 t1 t2 t3 t4 τ5 x1 _ hx1 hτ5
  obtain ⟨⟨hs, r0, r1, r2, r3, r4, r5⟩, hE, h8, -, n1, n2, n3⟩ := RT_r hRT
  obtain ⟨a1, a2, a3, a4, a5, a6⟩ := MS_k hRT.1
  have i39 := kmp_iff a3 a4 (c := 39) (by decide)
  rw [show kmp 39 = 256 by decide] at i39
  refine b_M_declaration_0 hs r0 r1 r2 r3 r4 r5 hE ?_
  rw [h8, Int.toNat_natCast, a1]
  exact ⟨a6, fun c => g15 0 (by rw [if_neg (fun q => c (i39.mpr q))]), fun c => g15 1 (by rw [if_pos (i39.mp c)])⟩
end RfP
