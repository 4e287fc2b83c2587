/-! The reference's WORK of an EXPR and of STATEMENTS -/
section WmP
variable {ω : q_W} {s N : Nat} {σ : q_H}
theorem l_workOf {k : Nat} {Kk : Int64 → q_H → Prop} {d : Nat} (wx : WX ω s N σ k) (hq : RQ s σ) (hN : N ≤ 4097) (hd : 2 * k + 5 ≤ d) : ∀ (m n : Nat) (e : q_Ex) (S : Nat) (x2 : Int64), NEs N (z σ s) (z σ (s + 1)) (z σ (s + 2)) (z σ (s + 3)) (z σ (s + 5)) (NE N (z σ s) (z σ (s + 1)) (z σ (s + 2)) (z σ (s + 3)) (z σ (s + 5)) k) m n e → wI e.1 → x2.toInt = ((min S 1000000 : Nat) : Int) → (∀ v : Int64, v.toInt = ((min (S + e.2.2.1) 1000000 : Nat) : Int) → Kk v σ) → J ω m_M_workOf (d + 1) 0 0 0 0 5 [(0, .ref 94), (2, .long x2), (4, .int (zI (n : Int)))] [] σ (q_kl Kk) := by
  obtain ⟨⟨hs, r0, r1, r2, r3, r4, r5⟩, hE⟩ := id hq
  intro m
  induction m with
  | zero =>
    intro n e S x2 h hw hS kk
    have hn : n < N := h.1
    obtain ⟨ku, hku, hsu, h0⟩ : ∃ ku : Int, (0 ≤ ku ∧ ku ≤ 47) ∧ z σ s n = kmp ku ∧ sgL ku = 0 := by
      obtain ⟨-, -, q | q | ⟨u, n1, e1, a, b, -⟩ | ⟨n1, n2, n3, e1, e2, e3, a, -⟩⟩ := id h
      · exact ⟨23, by decide, q.1.trans (by decide), by decide⟩
      · exact ⟨30, by decide, q.1.trans (by decide), by decide⟩
      · exact ⟨u, by omega, b, sgL_0.mpr (by omega)⟩
      · exact ⟨22, by decide, a.trans (by decide), by decide⟩
    refine b_M_workOf_5 hs r0 r1 r2 r3 r4 r5 hE (k_isTwo (by omega) hq (by omega) hku hsu (fun _ => ?_) (fun q => absurd h0 q))
    refine b_M_workOf_11 hs r0 r1 r2 r3 r4 r5 hE ⟨⟨by decide, by decide⟩, fun _ => k_other wx hq hN h hw hd (fun v hv => ?_), fun q => absurd rfl q⟩
    refine b_M_workOf_160 hs r0 r1 r2 r3 r4 r5 hE (k_most (by omega) hE (l_add hS hv (by omega)) (fun v2 hv2 => b_M_workOf_164 hs r0 r1 r2 r3 r4 r5 hE ⟨_, rfl, kk v2 ?_⟩))
    rw [hv2]; omega
  | succ m ih =>
    intro n e S x2 h hw hS kk
    obtain ⟨hn, hwd, u, n1, n2, e1, e2, hu, hsu, ha, hb, g1, g2, ge⟩ := h
    obtain ⟨j, rfl⟩ : ∃ j : Nat, u = (j : Int) := ⟨u.toNat, by omega⟩
    obtain ⟨p1, p2, p3⟩ := kmp_pr j (by omega) (by omega)
    subst ge
    have hw0 : wI (e1.1 ++ e2.1) := by unfold eB at hw; exact (wI_app.mp hw).1
    obtain ⟨hw1, hw2⟩ := wI_app.mp hw0
    have ew1 := NEs_w m n1 e1 g1 hw1
    have ew2 := NE_w k n2 e2 g2 hw2
    have t1 : n1 < N ∧ z σ (s + 5) n1 = e1.2.1 := by
      cases m with
      | zero => exact ⟨g1.1, g1.2.1⟩
      | succ m => exact ⟨g1.1, g1.2.1⟩
    have t2 : n2 < N ∧ z σ (s + 5) n2 = e2.2.1 := by
      cases k with
      | zero => exact False.elim g2
      | succ k =>
        obtain ⟨j, q⟩ := g2
        cases j with
        | zero => exact ⟨q.1, q.2.1⟩
        | succ j => exact ⟨q.1, q.2.1⟩
    have me : (eB (j : Int) e1 e2).2.1 = oW (j : Int) e1.2.1 e2.2.1 := rfl
    have mw : max (oW (j : Int) e1.2.1 e2.2.1) (max e1.2.1 e2.2.1) = max e1.2.1 e2.2.1 := by
      unfold oW
      split
      · omega
      · split <;> omega
    have we : (eB (j : Int) e1 e2).2.2.1 = e1.2.2.1 + e2.2.2.1 + oP (j : Int) (max e1.2.1 e2.2.1) := rfl
    generalize hW : max e1.2.1 e2.2.1 = W at mw we
    have W8 : 1 ≤ W ∧ W ≤ 8 := by omega
    -- behind the price
    have go : ∀ own : Int64, own.toInt = ((oP (j : Int) W : Nat) : Int) → J ω m_M_workOf (d + 1) 0 0 0 0 119 [(0, .ref 94), (2, .long x2), (4, .int (zI (n : Int)))] [.long own] σ (q_kl Kk) := fun own hown => by
      refine b_M_workOf_119 hs r0 r1 r2 r3 r4 r5 hE ⟨⟨by omega, by omega⟩, ?_⟩
      rw [Int.toNat_natCast, hb]
      have oPb : oP (j : Int) W ≤ 64 := by
        have : ∀ w : Nat, w < 9 → (((w : Int) * (w : Int)).toNat ≤ 64 ∧ (4 * (w : Int)).toNat ≤ 64 ∧ (w : Int).toNat ≤ 64) := by decide
        have q := this W.toNat (by omega)
        rw [show ((W.toNat : Nat) : Int) = W by omega] at q
        unfold oP
        split
        · exact q.1
        · split
          · exact q.2.1
          · exact q.2.2
      refine wx n2 e2 d _ g2 hw2 (by omega) (fun v hv => ?_)
      refine b_M_workOf_136 hs r0 r1 r2 r3 r4 r5 hE (k_most (by omega) hE (l_add (l_add hS hown (by omega)) hv (by omega)) (fun v2 hv2 => ?_))
      refine b_M_workOf_140 hs r0 r1 r2 r3 r4 r5 hE ⟨⟨by omega, by omega⟩, ?_⟩
      rw [Int.toNat_natCast, ha]
      refine ih n1 e1 (S + oP (j : Int) W + e2.2.2.1) v2 g1 hw1 (by rw [hv2]; omega) (fun v3 hv3 => kk v3 ?_)
      rw [hv3, we]; omega
    refine b_M_workOf_5 hs r0 r1 r2 r3 r4 r5 hE (k_isTwo (by omega) hq (by omega) ⟨by omega, by omega⟩ hsu (fun q => absurd q (by omega)) (fun _ => ?_))
    refine b_M_workOf_11 hs r0 r1 r2 r3 r4 r5 hE ⟨⟨by decide, by decide⟩, fun q => absurd q (by decide), fun _ => ?_⟩
    rw [Int.toNat_natCast, ha, hb, Int.toNat_natCast, Int.toNat_natCast, hwd, t1.2, t2.2, hsu, me, hW, mw]
    have e10 : sgL (j : Int) = 10 → ((zI (W * W)).toInt64).toInt = ((oP (j : Int) W : Nat) : Int) := fun q => by
      have b : 0 ≤ W * W ∧ W * W ≤ 8 * 8 := ⟨Int.mul_nonneg (by omega) (by omega), Int.mul_le_mul W8.2 W8.2 (by omega) (by decide)⟩
      rw [l_of ⟨b.1, by omega⟩]
      unfold oP; rw [if_pos q]
    have e8 : sgL (j : Int) = 8 → ((zI (4 * W)).toInt64).toInt = ((oP (j : Int) W : Nat) : Int) := fun q => by
      rw [l_of ⟨by omega, by omega⟩]
      unfold oP; rw [if_neg (by omega), if_pos q]
    have e1' : sgL (j : Int) ≠ 10 → sgL (j : Int) ≠ 8 → ((zI W).toInt64).toInt = ((oP (j : Int) W : Nat) : Int) := fun q1 q2 => by
      rw [l_of ⟨by omega, by omega⟩]
      unfold oP; rw [if_neg q1, if_neg q2]
    refine ⟨⟨by omega, by omega⟩, ⟨by omega, by omega⟩, ⟨by omega, by omega⟩, ⟨by omega, by omega⟩, fun q => go _ (e10 (p1.mpr (Or.inl q))), fun q42 => ⟨fun q => go _ (e10 (p1.mpr (Or.inr (Or.inl q)))), fun q47 => ⟨fun q37 => ⟨fun q => go _ (e8 (p2.mpr (Or.inl q))), fun q269 => ⟨fun q270 => go _ (e1' (fun q => (p1.mp q).elim q42 (fun q => q.elim q47 q37)) (fun q => (p2.mp q).elim q269 q270)), fun q => go _ (e8 (p2.mpr (Or.inr q)))⟩⟩, fun q => go _ (e10 (p1.mpr (Or.inr (Or.inr q))))⟩⟩⟩
theorem k_workOf (hq : RQ s σ) (hN : N ≤ 4097) (k : Nat) : WX ω s N σ k := by
  induction k with
  | zero => intro n e d Kk h; exact False.elim h
  | succ k ih =>
    intro n e d Kk h hw hd kk
    obtain ⟨d, rfl⟩ : ∃ k, d = k + 1 := ⟨d - 1, by omega⟩
    obtain ⟨⟨hs, r0, r1, r2, r3, r4, r5⟩, hE⟩ := id hq
    obtain ⟨m, h⟩ := h
    refine b_M_workOf_0 hs r0 r1 r2 r3 r4 r5 hE (l_workOf ih hq hN (by omega) m n e 0 0 h hw (by decide) (fun v hv => kk v ?_))
    rw [hv, Nat.zero_add]
end WmP
