/-! OVER A TREE: loops, all rounds; every tree -/
theorem ra_1 {A BUD qZ ke kw Q X x e Λ V : Nat} (hpot : A + (qZ + (ke + kw + Q) + ke + (X + x)) ≤ BUD) (m1 : 208 * e ≤ ke) (P6 : 156 + 3 * Λ + 780 * V ≤ Q) : A + (208 * e + (156 + Λ + 780 * V + (kw + X + 0))) ≤ BUD := by omega
theorem rp_1 {A p1 Tc e Λ v kw X X5 V Q ke : Nat} (hcc : p1 + Tc ≤ A + (208 * e + 156 + 2 * Λ + v + (kw + X + 0))) (hv : v ≤ 780 * V) (hX : X ≤ X5) (h7 : 156 + 2 * Λ + 780 * V + X5 ≤ Q) (m1 : 208 * e ≤ ke) : p1 ≤ A + (ke + kw + Q) := by omega
theorem rp_2 {A p1 T e Λ kw X X5 Q ke : Nat} (hcc : p1 + T ≤ A + (208 * e + 156 + 2 * Λ + 780 + (kw + X + 0))) (hX : X ≤ X5) (h7 : 156 + 2 * Λ + 780 + X5 ≤ Q + T) (m1 : 208 * e ≤ ke) : p1 ≤ A + (ke + kw + Q) := by omega
theorem rp_3 {A p1 a0 a1 e kw x13 Q ke : Nat} (N : a1 ≤ a0 + (208 * e + 156 + 2 * 676 + kw)) (h2 : p1 ≤ a1) (h3 : a0 ≤ A + x13) (h7 : 1508 + x13 ≤ Q) (m1 : 208 * e ≤ ke) : p1 ≤ A + (ke + kw + Q) := by omega
theorem rc_1 {A p1 p2 Tc Tc2 Z qZ ke X : Nat} (g2 : p2 + Tc2 ≤ p1 + (qZ + ke + X)) (rp : p1 ≤ A + Z) (hT : Tc ≤ Tc2) : p2 + Tc ≤ A + (qZ + Z + ke + X) := by omega
theorem rc_2 {A p1 p2 a1 a2 T e Λ kw X x13 Q ke qZ x : Nat} (hcc : p1 + T ≤ A + (208 * e + 156 + 2 * Λ + 780 + (kw + X + 0))) (h2 : p2 ≤ a2) (N : a2 ≤ a1 + (qZ + ke)) (h3 : a1 ≤ p1 + x13) (h7 : 936 + 2 * Λ + x13 ≤ Q) (m1 : 208 * e ≤ ke) : p2 + T ≤ A + (qZ + (ke + kw + Q) + ke + (X + x)) := by omega
theorem rn_1 {a0 a1 a2 e kw Q ke qZ : Nat} (N : a1 ≤ a0 + (208 * e + 156 + 2 * 676 + kw)) (N2 : a2 ≤ a1 + (qZ + ke)) (h7 : 2184 ≤ Q) (m1 : 208 * e ≤ ke) : a2 ≤ a0 + (qZ + (ke + kw + Q) + ke) := by omega
theorem rs_1 {n E1 q16 : Nat} (h : 8 * n + (8 + (q16 + (16 + E1))) ≤ 7999992) : 8 * n + (16 + E1) ≤ 7999992 := by omega
theorem rs_2 {n n1 n2 E1 q16 : Nat} (h : 8 * n + (8 + (q16 + (16 + E1))) ≤ 7999992) (b : 8 * n1 ≤ 8 * n + (16 + E1)) : 8 * n1 + (8 + q16) ≤ 7999992 ∧ (8 * n2 ≤ 8 * n1 + (8 + q16) → 8 * n2 ≤ 8 * n + (8 + (q16 + (16 + E1)))) := by omega
section TfP
variable {ω : q_W} {d p V : Nat} {σ0 : q_H} {WI WU : Nat → Int} {S : List q_St} {K : q_H → Prop} {ka lam b x y T BUD : Nat}
theorem pot_52 {s : Nat} {L : q_Lr} {σ : q_H} {dn : Nat → Bool} {ot : Nat} (hV : V = 1) (h1 : lam ≤ 52) (h2 : 52 ≤ lam + x) : pot V lam b s L σ dn ot ≤ pot V 52 b s L σ dn ot ∧ pot V 52 b s L σ dn ot ≤ pot V lam b s L σ dn ot + x * 13 := by
  unfold pot
  have a1 := Nat.mul_le_mul_right (12 + V - cnt dn (12 + V)) h1
  have a2 := Nat.mul_le_mul_right (12 + V - cnt dn (12 + V)) h2
  rw [Nat.add_mul] at a2
  have a3 := Nat.mul_le_mul_left x (show 12 + V - cnt dn (12 + V) ≤ 13 by omega)
  generalize 52 * (s + lsum L + nf σ) = A
  generalize b * ot = B
  generalize 12 + V - cnt dn (12 + V) = u at *
  clear h1 h2 hV
  omega
/-- what the rounds cost together -/
theorem t_rounds {dp i lp as w1 a1 fm jj : Nat} {l1 : List q_St} {e : q_Ex} (hd : 7 ≤ d) (hc : CT0 p V WI WU S σ0) (hP : PRM V ka lam b x y T) (hV : V ≠ 0) (hBUD : BUD ≤ 532012) (hdp : dp ≤ 30) (pe : PE (cI WI WU V) e ∧ hB e.1 0 = some 1) (hb : TCl ω d p V WI WU S σ0 K ka lam b x y T BUD false (dp + 1) (i + 2) (lp + 1) as l1 w1 a1) (h0 : S[i + 1]? = some (8, (lp : Int), (jj : Int), e.1)) (A2 : At S (i + 2) l1) (h9 : S[i + 2 + l1.length]? = some (9, 0, ((i + 1 : Nat) : Int), [])) (hi : i + 1 ≤ 2048) (hj : jj ≤ 2048)
    (hl1 : l1.length ≤ 1638) (h5 : a1 ≤ 512) (hf : fm ≤ dp) (hlp : lp ≤ dp) : ∀ (q n s : Nat) (σ : q_H) (L : q_Lr) (dn : Nat → Bool) (ot : Nat), q ≤ 8 → EI p V WI WU fm σ0 σ s L dn ot → z σ 68 lp = (q : Int) → pot V lam b s L σ dn ot + (q * (ka * (e.2.2.1 + w1 + 8 * V)) + ka * e.2.2.1 + (x * wWs l1 + x)) ≤ BUD → 8 * n + (8 + q * (16 + EB8 V l1.length w1)) ≤ 7999992 →
    (∀ (τ : q_H) (s' : Nat) (L' : q_Lr) (dn' : Nat → Bool) (ot' n' : Nat), EI p V WI WU fm σ0 τ s' L' dn' ot' → ME s s' σ τ → (∀ k, k < 96 * fm → z τ 64 k = z σ 64 k) → (∀ k, k < fm → z τ 65 k = z σ 65 k ∧ z τ 66 k = z σ 66 k ∧ z τ 67 k = z σ 67 k) → (∀ k, k < lp → z τ 68 k = z σ 68 k) → (∀ v, CSv s' τ v → SMq S WU (IvN σ v) e.1 q (i + 1) jj lp (lvb v (z σ 48 4)) (UvN σ v) (FvN σ v) (lvb v (z τ 48 4)) (UvN τ v) (FvN τ v)) → PTc V lam b T s L σ dn ot s' L' τ dn' ot' (q * (ka * (e.2.2.1 + w1 + 8 * V)) + ka * e.2.2.1) (q * (ka * (e.2.2.1 + w1 + 8 * V)) + ka * e.2.2.1 + (x * wWs l1 + x)) → 8 * n' ≤ 8 * n + (8 + q * (16 + EB8 V l1.length w1)) → J ω m_En_encode (d + 1) 0 0 0 0 54 [(0, .ref 48), (2, .int (zI (jj : Int))), (3, .int (zI (n' : Int)))] [] τ (q_kv K)) →
    J ω m_En_encode (d + 1) 0 0 0 0 54 [(0, .ref 48), (2, .int (zI ((i + 1 : Nat) : Int))), (3, .int (zI (n : Int)))] [] σ (q_kv K) := by
  have ws3 := hb.2.1
  have lp32 : lp < 32 := by omega
  have xS : x * wWs l1 ≤ x * 546 := Nat.mul_le_mul_left x (by omega)
  obtain ⟨⟨P1, P2, P3, P4, P5⟩, PS, P6, P7, PN, -, Py⟩ := id hP
  have hy := Py hV
  intro q
  induction q with
  | zero =>
    intro n s σ L dn ot hq h hr hpot hst kk
    rw [Nat.zero_mul, Nat.zero_add] at hpot kk
    rw [Nat.zero_mul] at hst kk
    have hpot' : pot V lam b s L σ dn ot + (ka * e.2.2.1 + x) ≤ BUD := Nat.le_trans (Nat.add_le_add_left (Nat.add_le_add_left (Nat.le_add_left _ _) _) _) hpot
    have n1 : n < 1000000 := by clear hpot hpot' xS P1 P2 P3 P4 P5 P6; omega
    refine t_last hd hc hP hBUD pe h0 hj lp32 h hr hpot' n1 (fun τ s' L' dn' ot' e1 e2 e3 e4 e5 e6 => ?_)
    have f63 := e3 63 (by decide) (by decide)
    refine kk τ s' L' dn' ot' (n + 1) e1 e2 (fun j _ => by rw [e3 64 (by decide) (by decide)]) (fun j _ => by rw [e3 65 (by decide) (by decide), e3 66 (by decide) (by decide), e3 67 (by decide) (by decide)]; exact ⟨rfl, rfl, rfl⟩) (fun j _ => by rw [e3 68 (by decide) (by decide)]) (fun v cv => ?_) ⟨false, fun _ => ⟨fun j _ => by rw [e3 62 (by decide) (by decide)], e5⟩, ?_⟩ (Nat.le_refl _)
    · rw [UvN_cg (σ := σ) (τ := τ) (fun j _ => by rw [e3 62 (by decide) (by decide)]), FvN_cg f63]
      exact SMq_0 h0 (e4 v cv)
    · rw [show false.toNat = 0 from rfl, Nat.mul_zero, Nat.add_zero]
      exact Nat.le_trans e6 (Nat.add_le_add_left (Nat.add_le_add_left (Nat.le_add_left _ _) _) _)
  | succ q ih =>
    intro n s σ L dn ot hq h hr hpot hst kk
    have m0 : (q + 1) * (ka * (e.2.2.1 + w1 + 8 * V)) = q * (ka * (e.2.2.1 + w1 + 8 * V)) + (ka * e.2.2.1 + ka * w1 + 8 * V * ka) := by rw [Nat.succ_mul]; congr 1; rw [Nat.mul_add, Nat.mul_add, Nat.mul_comm ka (8 * V)]
    have m3 : (q + 1) * (16 + EB8 V l1.length w1) = q * (16 + EB8 V l1.length w1) + (16 + EB8 V l1.length w1) := Nat.succ_mul _ _
    have m1 := Nat.mul_le_mul_right e.2.2.1 P4
    rw [m0] at hpot kk
    rw [m3] at hst kk
    have P6' : 156 + 3 * (lam * (12 + V)) + 780 * V ≤ 8 * V * ka := by rw [hy] at P6; exact P6
    have yl : y * l1.length = 0 := by rw [hy, Nat.zero_mul]
    have b0 := ra_1 hpot m1 P6'
    refine t_round hd hc hBUD hdp pe hb h0 A2 h9 hi hl1 h5 (Nat.le_of_succ_le hq) hf hlp h hr (by rw [yl]; exact b0) (rs_1 hst) (fun τ s1 L1 n1 c1 e1 me1 r64 r65 r68 rlp sem hcf hcc bn => ?_)
    rw [yl] at hcc
    have c780 : 780 * V * c1.toNat ≤ 780 * V := by cases c1 <;> simp
    have rp : pot V lam b s1 L1 τ (fun _ => false) 0 ≤ pot V lam b s L σ dn ot + (ka * e.2.2.1 + ka * w1 + 8 * V * ka) := by
      by_cases c : V = 1
      · obtain ⟨N1, N2, ⟨N3, N3'⟩, N4, N5⟩ := PN c
        have q8 : 8 * V * ka = 8 * ka := by rw [c]
        have l13 : lam * (12 + V) = lam * 13 := by rw [c]
        rw [q8]
        cases hcc1 : c1 with
        | true =>
          rw [hcc1] at hcc
          rw [show true.toNat = 1 from rfl, Nat.mul_one, Nat.mul_one, l13, c] at hcc
          rw [c]
          exact rp_2 hcc xS N4 m1
        | false =>
          have a1 := (hcf hcc1).2 c
          rw [show 52 * (12 + V) = 676 by rw [c]] at a1
          exact rp_3 a1 (pot_52 c P2 P3).1 (pot_52 c P2 P3).2 N3' m1
      · obtain ⟨p1, p2⟩ := P7 hV c
        exact rp_1 hcc c780 xS p2 m1
    have hp1 : pot V lam b s1 L1 τ (fun _ => false) 0 + (q * (ka * (e.2.2.1 + w1 + 8 * V)) + ka * e.2.2.1 + (x * wWs l1 + x)) ≤ BUD := by
      refine Nat.le_trans ?_ hpot
      have := rc_1 (p2 := pot V lam b s1 L1 τ (fun _ => false) 0 + (q * (ka * (e.2.2.1 + w1 + 8 * V)) + ka * e.2.2.1 + (x * wWs l1 + x))) (Tc := 0) (Tc2 := 0) (Nat.le_refl _) rp (Nat.le_refl _)
      exact this
    refine ih n1 s1 τ L1 (fun _ => false) 0 (Nat.le_of_succ_le hq) e1 rlp hp1 (rs_2 (n2 := 0) hst bn).1 (fun ρ s2 L2 dn2 ot2 n2 e2 me2 g64 g65 g68 sem2 pt2 bn2 => ?_)
    obtain ⟨c2, hdf, hdc⟩ := pt2
    have e61 : z τ 61 = z σ 61 := by rw [EI_61 e1, EI_61 h]
    refine kk ρ s2 L2 dn2 ot2 n2 e2 (ME_tr me1 me2) (fun k hk => by rw [g64 k hk, r64 k hk]) (fun k hk => ?_) (fun k hk => by rw [g68 k hk, r68 k hk]) (fun v cv => ?_) ⟨c1 || c2, fun qf => ?_, ?_⟩ ((rs_2 hst bn).2 bn2)
    · obtain ⟨a1, a2, a3⟩ := g65 k hk
      obtain ⟨b1, b2, b3⟩ := r65 k hk
      exact ⟨a1.trans b1, a2.trans b2, a3.trans b3⟩
    · obtain ⟨G2, U2, F2, s1', s2', s3', s4'⟩ := sem v (CSv_GM cv me2.2.2)
      have r := sem2 v cv
      rw [IvN_cg e61] at r
      exact SMq_s (Nat.le_of_succ_le hq) h0 h9 s1' s2' s3' s4' r
    · obtain ⟨q1, q2⟩ := Bool.or_eq_false_iff.mp qf
      obtain ⟨x1, x2⟩ := hcf q1
      obtain ⟨y1, y2⟩ := hdf q2
      refine ⟨fun j hj' => (y1 j hj').trans (x1 j hj'), fun hV1 => ?_⟩
      have a1 := x2 hV1
      rw [show 52 * (12 + V) = 676 by rw [hV1]] at a1
      have q8 : 8 * V * ka = 8 * ka := by rw [hV1]
      rw [q8]
      exact rn_1 a1 (y2 hV1) (PN hV1).2.1 m1
    · cases hc2 : c2 with
      | true =>
        rw [hc2] at hdc
        refine rc_1 hdc rp ?_
        cases c1 <;> exact Nat.le_refl _
      | false =>
        rw [hc2] at hdc
        cases hc1 : c1 with
        | false => exact rc_1 hdc rp (Nat.le_refl _)
        | true =>
          by_cases c : V = 1
          · obtain ⟨N1, N2, ⟨N3, N3'⟩, N4, N5⟩ := PN c
            have q8 : 8 * V * ka = 8 * ka := by rw [c]
            have l13 : lam * (12 + V) = lam * 13 := by rw [c]
            rw [hc1] at hcc
            rw [show true.toNat = 1 from rfl, Nat.mul_one, Nat.mul_one, l13, show 780 * V = 780 by rw [c]] at hcc
            rw [q8, show (true || false).toNat = 1 from rfl, Nat.mul_one]
            exact rc_2 hcc (pot_52 c P2 P3).1 ((hdf hc2).2 c) (pot_52 c P2 P3).2 N3 m1
          · obtain ⟨p1, -⟩ := P7 hV c
            rw [p1, Nat.zero_mul]
            rw [p1, Nat.zero_mul] at hdc
            exact rc_1 hdc rp (Nat.le_refl _)
end TfP
