/-! THE ENCODER, a step each: join, loops -/
section SvP
variable {ω : q_W} {d p V fm s n i : Nat} {σ0 σ : q_H} {WI WU : Nat → Int} {S : List q_St} {L : q_Lr} {dn : Nat → Bool} {ot : Nat} {K : q_H → Prop}
theorem L_join {a b : Int} (c : Bool) (hd : 7 ≤ d) (hc : CT0 p V WI WU S σ0) (h : EI p V WI WU (fm + 1) σ0 σ s L dn ot) (hx : S[i]? = some (6, a, b, [])) (hn : n < 1000000) (hcs : c = false → ∀ j, j < 96 → z σ 62 j = z σ 64 (96 * fm + j)) (k1 : ∃ r, RA s σ (z σ 66 fm) (z σ 67 fm) r) (k2 : ∃ r, RA s σ (z σ 66 fm) (zXor (z σ 67 fm) 1) r) (hs : s + 8 * V * c.toNat < 10240)
    (kk : ∀ τ s' L', EI p V WI WU fm σ0 τ s' L' (fun _ => false) 0 → ME s s' σ τ → (∀ o, 61 ≤ o → o ≠ 62 → z τ o = z σ o) → s' + lsum L' ≤ s + lsum L + 1 + 15 * V * c.toNat → (c = false → ∀ j, j < 96 → z τ 62 j = z σ 62 j) → (∀ v, CSv s' τ v → (∀ j, j < 96 → lvb v (z τ 62 j) = if lvb v (z σ 67 fm) then lvb v (z σ 62 j) else lvb v (z σ 64 (96 * fm + j))) ∧ lvb v (z τ 48 4) = (lvb v (z σ 48 4) || lvb v (z σ 65 fm))) → J ω m_En_encode (d + 1) 0 0 0 0 54 [(0, .ref 48), (2, .int (zI ((i + 1 : Nat) : Int))), (3, .int (zI ((n + 1 : Nat) : Int)))] [] τ (q_kv K)) : J ω m_En_encode (d + 1) 0 0 0 0 54 [(0, .ref 48), (2, .int (zI (i : Int))), (3, .int (zI (n : Int)))] [] σ (q_kv K) := by
  have hp := hc.1
  refine y_ev0 (by omega) hc h hx rfl hn (fun ⟨c5, c6, c9⟩ i16 => ?_)
  obtain ⟨d, rfl⟩ : ∃ k, d = k + 1 := ⟨d - 1, by omega⟩
  have no : ∀ a : Int, a ≠ 6 → ¬ z σ (p + 5) i = a := fun a ha q => ha (by rw [← q, c5])
  refine b_En_perform_0 hp h.1.1.2 h.1.1.1 ⟨⟨by omega, by omega⟩, ?_⟩
  rw [Int.toNat_natCast]
  refine ⟨fun c => absurd c (no 1 (by decide)), fun c => absurd c (no 2 (by decide)), fun c => absurd c (no 3 (by decide)), fun c => absurd c (no 4 (by decide)), fun c => absurd c (no 5 (by decide)), fun _ => ?_, fun c => absurd c (no 7 (by decide)), fun c => absurd c (no 8 (by decide)), fun c => absurd c5 c.2.2.2.2.2.1⟩
  refine q_join c (by omega) hc h hcs k1 k2 hs (fun τ s' L' e1 e2 e3 e4 e5 e6 => b_En_perform_158 hp e1.1.1.2 e1.1.1.1 ?_)
  rw [show (i : Int) + 1 = ((i + 1 : Nat) : Int) by omega]
  exact y_nx hp e1.1.1.1 e1.1.1.2 (by omega) (kk τ s' L' e1 e2 e3 e4 e5 e6)
theorem L_again {a : Int} {j : Nat} (c : Bool) (hd : 7 ≤ d) (hc : CT0 p V WI WU S σ0) (h : EI p V WI WU (fm + 1) σ0 σ s L dn ot) (hx : S[i]? = some (9, a, (j : Int), [])) (hj : j ≤ 2048) (hn : n < 1000000) (hcs : c = false → ∀ j, j < 96 → z σ 62 j = z σ 64 (96 * fm + j)) (k1 : ∃ r, RA s σ (z σ 66 fm) (z σ 67 fm) r) (k2 : ∃ r, RA s σ (z σ 66 fm) (zXor (z σ 67 fm) 1) r) (hs : s + 8 * V * c.toNat < 10240)
    (kk : ∀ τ s' L', EI p V WI WU fm σ0 τ s' L' (fun _ => false) 0 → ME s s' σ τ → (∀ o, 61 ≤ o → o ≠ 62 → z τ o = z σ o) → s' + lsum L' ≤ s + lsum L + 1 + 15 * V * c.toNat → (c = false → ∀ j, j < 96 → z τ 62 j = z σ 62 j) → (∀ v, CSv s' τ v → (∀ j, j < 96 → lvb v (z τ 62 j) = if lvb v (z σ 67 fm) then lvb v (z σ 62 j) else lvb v (z σ 64 (96 * fm + j))) ∧ lvb v (z τ 48 4) = (lvb v (z σ 48 4) || lvb v (z σ 65 fm))) → J ω m_En_encode (d + 1) 0 0 0 0 54 [(0, .ref 48), (2, .int (zI (j : Int))), (3, .int (zI ((n + 1 : Nat) : Int)))] [] τ (q_kv K)) : J ω m_En_encode (d + 1) 0 0 0 0 54 [(0, .ref 48), (2, .int (zI (i : Int))), (3, .int (zI (n : Int)))] [] σ (q_kv K) := by
  have hp := hc.1
  refine y_ev0 (by omega) hc h hx rfl hn (fun ⟨c5, c6, c9⟩ i16 => ?_)
  obtain ⟨d, rfl⟩ : ∃ k, d = k + 1 := ⟨d - 1, by omega⟩
  have no : ∀ a : Int, a ≠ 9 → ¬ z σ (p + 5) i = a := fun a ha q => ha (by rw [← q, c5])
  refine b_En_perform_0 hp h.1.1.2 h.1.1.1 ⟨⟨by omega, by omega⟩, ?_⟩
  rw [Int.toNat_natCast]
  refine ⟨fun c => absurd c (no 1 (by decide)), fun c => absurd c (no 2 (by decide)), fun c => absurd c (no 3 (by decide)), fun c => absurd c (no 4 (by decide)), fun c => absurd c (no 5 (by decide)), fun c => absurd c (no 6 (by decide)), fun c => absurd c (no 7 (by decide)), fun c => absurd c (no 8 (by decide)), fun _ => ?_⟩
  refine q_join c (by omega) hc h hcs k1 k2 hs (fun τ s' L' e1 e2 e3 e4 e5 e6 => b_En_perform_216 hp e1.1.1.2 e1.1.1.1 ⟨⟨by omega, by omega⟩, ?_⟩)
  have e9 : z τ (p + 9) i = (j : Int) := by rw [EI_p hp e1.1 (by omega) (by omega), ← EI_p hp h.1 (show p ≤ p + 9 by omega) (by omega)]; exact c9
  rw [Int.toNat_natCast, e9]
  exact y_nx hp e1.1.1.1 e1.1.1.2 hj (kk τ s' L' e1 e2 e3 e4 e5 e6)
/-- the rounds are written -/
theorem EI_68 {k : Nat} {x : Int} (hc : CT0 p V WI WU S σ0) (h : EI p V WI WU fm σ0 σ s L dn ot) : EI p V WI WU fm σ0 (zs σ 68 k x) s L dn ot := by
  obtain ⟨g1, g2, g3, g4, g5, g6, g7, g8⟩ := h
  have o : ∀ a, a ≠ 68 → z (zs σ 68 k x) a = z σ a := fun a ha => z_oF ha
  have m : ME s s σ (zs σ 68 k x) := ME_z (fun a _ _ => o a (by omega)) g2
  refine ⟨NX_w hc.1 g1 (Or.inr (by decide)) (fun c => absurd c (by decide)) (fun c => absurd c (by omega)) (fun c => absurd c (by decide)), m.1, m.2.1.trans g3, fun v cv q j hj => ?_, ?_, ?_, CovA_mv hc.2.2.1 g7 m.2.2 (Nat.le_refl _) (o 61 (by decide)) (fun j _ => by rw [o 62 (by decide)]) (fun j _ => by rw [o 64 (by decide)]), DnI_mv hc.2.2.1 g8 m.2.2 (o 61 (by decide)) (fun j _ => by rw [o 62 (by decide)]) (by rw [o 48 (by decide)]) (o 69 (by decide))⟩
  · rw [o 48 (by decide)] at q hj
    rw [o 69 (by decide)]
    exact g4 v (CSv_GM cv m.2.2) q j hj
  · rw [o 62 (by decide), o 64 (by decide)]; exact g5
  · rw [o 62 (by decide), o 64 (by decide)]; exact g6
theorem L_loop {k lp : Nat} (hd : 7 ≤ d) (hc : CT0 p V WI WU S σ0) (h : EI p V WI WU fm σ0 σ s L dn ot) (hx : S[i]? = some (7, (k : Int), (lp : Int), [])) (hlp : lp < 32) (hk : k ≤ 8) (hn : n < 1000000)
    (kk : ∀ τ, EI p V WI WU fm σ0 τ s L dn ot → ME s s σ τ → (∀ o, o = 48 ∨ 61 ≤ o → o ≠ 68 → z τ o = z σ o) → (∀ j, j ≠ lp → z τ 68 j = z σ 68 j) → z τ 68 lp = (if V = 0 then ((min k 1 : Nat) : Int) else (k : Int)) → J ω m_En_encode (d + 1) 0 0 0 0 54 [(0, .ref 48), (2, .int (zI ((i + 1 : Nat) : Int))), (3, .int (zI ((n + 1 : Nat) : Int)))] [] τ (q_kv K)) : J ω m_En_encode (d + 1) 0 0 0 0 54 [(0, .ref 48), (2, .int (zI (i : Int))), (3, .int (zI (n : Int)))] [] σ (q_kv K) := by
  have hp := hc.1
  refine y_ev0 (by omega) hc h hx rfl hn (fun ⟨c5, c6, c9⟩ i16 => ?_)
  obtain ⟨d, rfl⟩ : ∃ k, d = k + 1 := ⟨d - 1, by omega⟩
  have no : ∀ a : Int, a ≠ 7 → ¬ z σ (p + 5) i = a := fun a ha q => ha (by rw [← q, c5])
  have e4 : z σ p 4 = (V : Int) := by rw [EI_p hp h.1 (Nat.le_refl _) (by omega)]; exact hc.2.2.2.1
  have c9' : z σ (p + 9) i = (lp : Int) := c9
  have fin : ∀ x : Int, inR x → x = (if V = 0 then ((min k 1 : Nat) : Int) else (k : Int)) → q_ki (fun v ρ => J ω m_En_encode (d + 1 + 1) 0 0 0 0 107 [(0, .ref 48), (3, .int (zI (n : Int)))] [.int (zI v)] ρ (q_kv K)) (.inl (some (.int (zI ((i : Int) + 1))))) (zs σ 68 lp x) := fun x hx' hxe => by
    rw [show (i : Int) + 1 = ((i + 1 : Nat) : Int) by omega]
    have e := EI_68 (k := lp) (x := x) hc h
    exact y_nx hp e.1.1.1 e.1.1.2 (by omega) (kk _ e (ME_z (fun a _ _ => z_oF (by omega)) h.2.1) (fun o _ q2 => z_oF q2) (fun j hj => z_k hj) (by rw [z_s hx']; exact hxe))
  refine b_En_perform_0 hp h.1.1.2 h.1.1.1 ⟨⟨by omega, by omega⟩, ?_⟩
  rw [Int.toNat_natCast, e4]
  refine ⟨fun c => absurd c (no 1 (by decide)), fun c => absurd c (no 2 (by decide)), fun c => absurd c (no 3 (by decide)), fun c => absurd c (no 4 (by decide)), fun c => absurd c (no 5 (by decide)), fun c => absurd c (no 6 (by decide)), fun _ => ?_, fun c => absurd c (no 8 (by decide)), fun c => absurd c5 c.2.2.2.2.2.2.1⟩
  rw [c9', Int.toNat_natCast]
  refine ⟨fun cv => ⟨⟨by omega, by omega⟩, fin (k : Int) ⟨by omega, by omega⟩ ?_⟩, fun cv => ⟨show inR (k : Int) from ⟨by omega, by omega⟩, ⟨by omega, by omega⟩, fin (min (k : Int) 1) ⟨by omega, by omega⟩ ?_⟩⟩
  · rw [if_neg (by omega)]
  · rw [if_pos (by omega)]; omega
/-- a round begins -/
theorem L_test1 {e : q_Ex} {lp q : Nat} {b : Int} (hd : 7 ≤ d) (hc : CT0 p V WI WU S σ0) (h : EI p V WI WU fm σ0 σ s L dn ot) (hx : S[i]? = some (8, (lp : Int), b, e.1)) (pe : PE (cI WI WU V) e) (hg : hB e.1 0 = some 1) (hlp : lp < 32) (hq : z σ 68 lp = ((q + 1 : Nat) : Int)) (hq8 : q ≤ 8) (hf : fm ≤ 31) (hn : n < 1000000) (hB : s + lsum L + 4 * e.2.2.1 + 8 < 10240)
    (kk : ∀ τ s' L' r, EI p V WI WU (fm + 1) σ0 τ s' L' (fun _ => false) 0 → ME s s' σ τ → FKd fm σ τ s' r → (∀ j, j ≠ lp → z τ 68 j = z σ 68 j) → z τ 68 lp = (q : Int) → s' + lsum L' ≤ s + lsum L + 4 * e.2.2.1 + 2 → (∀ v, CSv s' τ v → lvb v r = decide (wth (IvN σ v) (UvN σ v) e.1 ≠ 0) ∧ lvb v (z τ 48 4) = (lvb v (z σ 48 4) && lvb v r) ∧ lvb v (z τ 65 fm) = (lvb v (z σ 48 4) && !lvb v r)) → J ω m_En_encode (d + 1) 0 0 0 0 54 [(0, .ref 48), (2, .int (zI ((i + 1 : Nat) : Int))), (3, .int (zI ((n + 1 : Nat) : Int)))] [] τ (q_kv K)) : J ω m_En_encode (d + 1) 0 0 0 0 54 [(0, .ref 48), (2, .int (zI (i : Int))), (3, .int (zI (n : Int)))] [] σ (q_kv K) := by
  have hp := hc.1
  refine y_ev hd hc h hx rfl pe hg hn (by omega) (fun τ t w1 w3 w4 w5 w6 w7 ⟨c5, c6, c9⟩ i16 => ?_)
  obtain ⟨d, rfl⟩ : ∃ k, d = k + 1 := ⟨d - 1, by omega⟩
  have no : ∀ a : Int, a ≠ 8 → ¬ z τ (p + 5) i = a := fun a ha q => ha (by rw [← q, c5])
  refine b_En_perform_0 hp (by rw [fr_r w1.1.2.2.2.1]; exact h.1.1.2) w1.1.1 ⟨⟨by omega, by omega⟩, ?_⟩
  rw [Int.toNat_natCast]
  refine ⟨fun c => absurd c (no 1 (by decide)), fun c => absurd c (no 2 (by decide)), fun c => absurd c (no 3 (by decide)), fun c => absurd c (no 4 (by decide)), fun c => absurd c (no 5 (by decide)), fun c => absurd c (no 6 (by decide)), fun c => absurd c (no 7 (by decide)), fun _ => ?_, fun c => absurd c5 c.2.2.2.2.2.2.2⟩
  refine y_truth (by omega) hc h w1 w3 w4 w5 w6 w7 hB (fun r τ2 t2 L2 v1 v2 v3 v4 v5 v6 => ?_)
  have h2 := EI_tr hc h v1 v4
  have f2 : ∀ o, o ∉ SWo → z τ2 o = z σ o := fun o ho => fr_zF v1.1.2.2.2.1 ho
  have h3 := EI_68 (k := lp) (x := (((q + 1 : Nat) : Int) - 1)) hc h2
  have g3 : ∀ o, o ≠ 68 → z (zs τ2 68 lp (((q + 1 : Nat) : Int) - 1)) o = z τ2 o := fun o ho => z_oF ho
  have m23 : ME t2 t2 τ2 (zs τ2 68 lp (((q + 1 : Nat) : Int) - 1)) := ME_z (fun o _ _ => g3 o (by omega)) h2.2.1
  have e68 : z τ2 68 lp = ((q + 1 : Nat) : Int) := by rw [f2 68 (by decide)]; exact hq
  obtain ⟨d, rfl⟩ : ∃ k, d = k + 1 := ⟨d - 1, by omega⟩
  refine b_En_perform_208 hp h2.1.1.2 h2.1.1.1 (b_En_turn_0 hp h2.1.1.2 h2.1.1.1 ⟨⟨show (0 : Int) ≤ (lp : Int) by omega, show (lp : Int) < 32 by omega⟩, ?_⟩)
  rw [show ((8, (lp : Int), b, e.1) : q_St).2.1.toNat = lp from Int.toNat_natCast lp, e68]
  refine ⟨fun _ => ?_, fun c => absurd c (by omega)⟩
  refine yy_fork (by omega) hp h3.1 h3.2.1 hf v2 (by omega) (fun τ3 t3 n3 m3 b3 o3 e48 e15 e64 e64' e65 e66 e67 ra1 ra2 => b_En_turn_39 hp n3.1.2 n3.1.1 ⟨_, ⟨by omega, by omega⟩, rfl, b_En_perform_211 hp n3.1.2 n3.1.1 ?_⟩)
  rw [show (i : Int) + 1 = ((i + 1 : Nat) : Int) by omega]
  rw [g3 48 (by decide), f2 48 (by decide)] at e66 ra1 ra2
  have o3' : ∀ o, 61 ≤ o → o ≠ 64 → o ≠ 65 → o ≠ 66 → o ≠ 67 → o ≠ 68 → z τ3 o = z (zs τ2 68 lp (((q + 1 : Nat) : Int) - 1)) o := fun o q1 q2 q3 q4 q5 _ => o3 o (by omega) q2 q3 q4 q5
  have z68 : z τ3 68 = z (zs τ2 68 lp (((q + 1 : Nat) : Int) - 1)) 68 := o3 68 (by decide) (by decide) (by decide) (by decide) (by decide)
  refine y_nx hp n3.1.1 n3.1.2 (by omega) (kk τ3 t3 L2 r (EI_fork (r := r) hc h3 n3 m3 o3' e15 e64 e64') (ME_tr (ME_tr (ME_WT v1) m23) m3) ⟨fun o q1 q2 q3 q4 q5 q6 => by rw [o3' o q1 q2 q3 q4 q5 q6, g3 o q6, f2 o (by unfold SWo; simp; omega)], fun j hj => by rw [e64 j hj, g3 64 (by decide), f2 64 (by decide)], fun j hj => by rw [e64' j hj, g3 62 (by decide), f2 62 (by decide)], fun j hj => ?_, e66, e67, ra1, ra2⟩ (fun j hj => by rw [z68, z_k hj, f2 68 (by decide)]) (by rw [z68, z_s ⟨by omega, by omega⟩]; omega) (by omega) (fun v cv => ?_))
  · obtain ⟨q1, q2, q3⟩ := e65 j (by omega)
    rw [q1, q2, q3, g3 65 (by decide), g3 66 (by decide), g3 67 (by decide), f2 65 (by decide), f2 66 (by decide), f2 67 (by decide)]
    exact ⟨rfl, rfl, rfl⟩
  · obtain ⟨-, q3⟩ := v3 v (CSv_GM cv (GM_tr m23.2.2 m3.2.2))
    have s3 := NX_s n3
    have le := m3.2.2.1
    have gl : lit t3 (z σ 48 4) := by
      have := h2.1.2.2.2.2.2.1
      rw [f2 48 (by decide)] at this
      exact lit_m this le
    have lr := lit_m v2 le
    refine ⟨q3, RA_v ra2 s3.2 gl lr cv, ?_⟩
    rw [RA_v ra1 s3.2 gl (lit_x s3.2 lr).1 cv, lvb_x lr.1 (by have := lr.2; omega)]
/-- no round is left -/
theorem L_test0 {e : q_Ex} {lp j : Nat} (hd : 7 ≤ d) (hc : CT0 p V WI WU S σ0) (h : EI p V WI WU fm σ0 σ s L dn ot) (hx : S[i]? = some (8, (lp : Int), (j : Int), e.1)) (pe : PE (cI WI WU V) e) (hg : hB e.1 0 = some 1) (hlp : lp < 32) (hj : j ≤ 2048) (hq : z σ 68 lp = 0) (hn : n < 1000000) (hB : s + lsum L + 4 * e.2.2.1 + 8 < 10240)
    (kk : ∀ τ s' L' dn' ot', EI p V WI WU fm σ0 τ s' L' dn' ot' → ME s s' σ τ → (∀ o, 61 ≤ o → o ≠ 69 → z τ o = z σ o) → (∀ lam b, lam * (12 + V) ≤ b * (18 - V) → (1 ≤ e.2.2.1 → 52 * (s' + lsum L') + lam * (12 + V - cnt dn' (12 + V)) + b * ot' ≤ 52 * (s + lsum L) + lam * (12 + V - cnt dn (12 + V)) + b * ot + 208 * e.2.2.1 + b) ∧ (e.2.2.1 = 0 → lam ≤ 52 → 52 * (s' + lsum L') + lam * (12 + V - cnt dn' (12 + V)) + b * ot' + lam ≤ 52 * (s + lsum L) + lam * (12 + V - cnt dn (12 + V)) + b * ot + 52)) → (∀ v, CSv s' τ v → lvb v (z τ 48 4) = (lvb v (z σ 48 4) && !decide (wth (IvN σ v) (UvN σ v) e.1 ≠ 0))) → J ω m_En_encode (d + 1) 0 0 0 0 54 [(0, .ref 48), (2, .int (zI (j : Int))), (3, .int (zI ((n + 1 : Nat) : Int)))] [] τ (q_kv K)) : J ω m_En_encode (d + 1) 0 0 0 0 54 [(0, .ref 48), (2, .int (zI (i : Int))), (3, .int (zI (n : Int)))] [] σ (q_kv K) := by
  have hp := hc.1
  have V12 := hc.2.2.1
  refine y_ev hd hc h hx rfl pe hg hn (by omega) (fun τ t w1 w3 w4 w5 w6 w7 ⟨c5, c6, c9⟩ i16 => ?_)
  obtain ⟨d, rfl⟩ : ∃ k, d = k + 1 := ⟨d - 1, by omega⟩
  have no : ∀ a : Int, a ≠ 8 → ¬ z τ (p + 5) i = a := fun a ha q => ha (by rw [← q, c5])
  have c9' : z τ (p + 9) i = (j : Int) := c9
  have s9 : z σ0 (p + 9) i = (j : Int) := by
    have q1 : z τ (p + 9) = z σ (p + 9) := fr_zF w1.1.2.2.2.1 (by unfold SWo; simp; omega)
    have q2 : z σ (p + 9) = z σ0 (p + 9) := EI_p hp h.1 (by omega) (by omega)
    rw [← q2, ← q1]; exact c9'
  refine b_En_perform_0 hp (by rw [fr_r w1.1.2.2.2.1]; exact h.1.1.2) w1.1.1 ⟨⟨by omega, by omega⟩, ?_⟩
  rw [Int.toNat_natCast]
  refine ⟨fun c => absurd c (no 1 (by decide)), fun c => absurd c (no 2 (by decide)), fun c => absurd c (no 3 (by decide)), fun c => absurd c (no 4 (by decide)), fun c => absurd c (no 5 (by decide)), fun c => absurd c (no 6 (by decide)), fun c => absurd c (no 7 (by decide)), fun _ => ?_, fun c => absurd c5 c.2.2.2.2.2.2.2⟩
  refine y_truth (by omega) hc h w1 w3 w4 w5 w6 w7 hB (fun r τ2 t2 L2 v1 v2 v3 v4 v5 v6 => ?_)
  have h2 := EI_tr hc h v1 v4
  have f2 : ∀ o, o ∉ SWo → z τ2 o = z σ o := fun o ho => fr_zF v1.1.2.2.2.1 ho
  have e68 : z τ2 68 lp = 0 := by rw [f2 68 (by decide)]; exact hq
  obtain ⟨d, rfl⟩ : ∃ k, d = k + 1 := ⟨d - 1, by omega⟩
  refine b_En_perform_208 hp h2.1.1.2 h2.1.1.1 (b_En_turn_0 hp h2.1.1.2 h2.1.1.1 ⟨⟨show (0 : Int) ≤ (lp : Int) by omega, show (lp : Int) < 32 by omega⟩, ?_⟩)
  rw [show ((8, (lp : Int), (j : Int), e.1) : q_St).2.1.toNat = lp from Int.toNat_natCast lp, e68]
  refine ⟨fun c => absurd rfl c, fun _ => ?_⟩
  have go : ∀ (τ3 : q_H) (t3 : Nat) (dn' : Nat → Bool) (ot' : Nat), EI p V WI WU fm σ0 τ3 t3 L2 dn' ot' → ME t2 t3 τ2 τ3 → (∀ o, 61 ≤ o → o ≠ 69 → z τ3 o = z τ2 o) → (∀ lam b, lam * (12 + V) ≤ b * (18 - V) → (1 ≤ e.2.2.1 → 52 * (t3 + lsum L2) + lam * (12 + V - cnt dn' (12 + V)) + b * ot' ≤ 52 * (s + lsum L) + lam * (12 + V - cnt dn (12 + V)) + b * ot + 208 * e.2.2.1 + b) ∧ (e.2.2.1 = 0 → lam ≤ 52 → 52 * (t3 + lsum L2) + lam * (12 + V - cnt dn' (12 + V)) + b * ot' + lam ≤ 52 * (s + lsum L) + lam * (12 + V - cnt dn (12 + V)) + b * ot + 52)) → (∀ v, CSv t3 τ3 v → lvb v (z τ3 48 4) = (lvb v (z τ2 48 4) && !lvb v r)) → J ω m_En_turn (d + 1) 0 0 0 0 14 [(0, .ref 48), (1, .int (zI (i : Int)))] [] τ3 (q_ki (fun v ρ => J ω m_En_perform (d + 1 + 1) 0 0 0 0 211 [] [.int (zI v)] ρ (q_ki (fun v ρ => J ω m_En_encode (d + 1 + 1 + 1) 0 0 0 0 107 [(0, .ref 48), (3, .int (zI (n : Int)))] [.int (zI v)] ρ (q_kv K))))) := by
    intro τ3 t3 dn' ot' e3 m3 o3 hpot hval
    have e9 : z τ3 (p + 9) i = (j : Int) := by rw [EI_p hp e3.1 (by omega) (by omega)]; exact s9
    refine b_En_turn_14 hp e3.1.1.2 e3.1.1.1 ⟨⟨by omega, by omega⟩, ?_⟩
    rw [Int.toNat_natCast, e9]
    refine ⟨_, ⟨by omega, by omega⟩, rfl, b_En_perform_211 hp e3.1.1.2 e3.1.1.1 (y_nx hp e3.1.1.1 e3.1.1.2 hj (kk τ3 t3 L2 dn' ot' e3 (ME_tr (ME_WT v1) m3) (fun o q1 q2 => by rw [o3 o q1 q2, f2 o (by unfold SWo; simp; omega)]) hpot (fun v cv => ?_)))⟩
    obtain ⟨-, q3⟩ := v3 v (CSv_GM cv m3.2.2)
    rw [hval v cv, f2 48 (by decide), q3]
  refine y_deny (by omega) hp h2.1 h2.2.1 v2 (by omega) (fun ⟨i', q1, q2⟩ => ?_) (fun τ3 t3 n3 m3 b3 cst o3 e48 nin e15 e69 e69' val => ?_)
  · refine go τ2 t2 dn ot h2 (ME_refl h2.2.1) (fun _ _ _ => rfl) (fun lam b hl => ⟨fun w => by omega, fun w hl2 => by omega⟩) (fun v cv => ?_)
    cases hG : lvb v (z τ2 48 4) with
    | false => rfl
    | true =>
      have := h2.2.2.2.1 v cv hG i' q1
      rw [q2] at this
      rw [this]; rfl
  · have c0 := h2.1.2.2.2.2.2.2.2.2.2.1
    have o61 := o3 61 (by decide) (by decide)
    have o62 : ∀ j, j < 96 → z τ3 62 j = z τ2 62 j := fun j _ => by rw [o3 62 (by decide) (by decide)]
    have mk : ∀ k, (k < 14 + V → TLn V t2 τ2 k r) → ∃ dn' ot', EI p V WI WU fm σ0 τ3 t3 L2 dn' ot' ∧ ∀ lam b, lam * (12 + V) ≤ b * (18 - V) → lam * (12 + V - cnt dn' (12 + V)) + b * ot' + (if k < 12 + V then lam else 0) ≤ lam * (12 + V - cnt dn (12 + V)) + b * ot + (if k < 14 + V then 0 else b) := fun k hk => by
      obtain ⟨dn', ot', q1, q2⟩ := DnI_push V12 h2.2.1 h2.2.2.2.2.2.2.2 m3.2.2 o61 o62 c0 e15 e69 e69' nin hk
      refine ⟨dn', ot', ⟨n3, m3.1, m3.2.1.trans h2.2.2.1, fun v cv q i' hi => ?_, ?_, ?_, CovA_mv V12 h2.2.2.2.2.2.2.1 m3.2.2 (Nat.le_refl _) o61 o62 (fun j _ => by rw [o3 64 (by decide) (by decide)]), q1⟩, q2⟩
      · rw [val v cv] at q
        have qq := Bool.and_eq_true_iff.mp q
        by_cases ci : i' = (dcn (z τ2 48 15)).toNat
        · rw [ci, e69']
          simpa using qq.2
        · rw [e69 i' ci]
          refine h2.2.2.2.1 v (CSv_GM cv m3.2.2) qq.1 i' ?_
          rw [e15] at hi
          unfold dcn at hi ci
          split at hi
          · next c32 => rw [if_pos c32] at ci; exact absurd hi (by omega)
          · next c32 => rw [if_neg c32] at ci; omega
      · rw [o3 62 (by decide) (by decide), o3 64 (by decide) (by decide)]; exact h2.2.2.2.2.1
      · rw [o3 62 (by decide) (by decide), o3 64 (by decide) (by decide)]; exact h2.2.2.2.2.2.1
    have o3' : ∀ o, 61 ≤ o → o ≠ 69 → z τ3 o = z τ2 o := fun o q1 q2 => o3 o (by omega) q2
    rcases v6 with ⟨wp, wt⟩ | ⟨w0, k, k14, tl, kr⟩
    · obtain ⟨dn', ot', e3, hp3⟩ := mk (14 + V) (fun q => absurd q (by omega))
      refine go τ3 t3 dn' ot' e3 m3 o3' (fun lam b hl => ⟨fun _ => ?_, fun w => absurd w (by omega)⟩) val
      have := hp3 lam b hl
      rw [if_neg (by omega), if_neg (by omega)] at this
      omega
    · obtain ⟨dn', ot', e3, hp3⟩ := mk k (fun _ => tl)
      refine go τ3 t3 dn' ot' e3 m3 o3' (fun lam b hl => ⟨fun w => absurd w (by omega), fun _ hl2 => ?_⟩) val
      have := hp3 lam b hl
      rw [if_pos k14] at this
      by_cases ck : k < 12 + V
      · rw [if_pos ck] at this
        omega
      · rw [if_neg ck] at this
        have := cst (kr (by omega))
        omega
end SvP
