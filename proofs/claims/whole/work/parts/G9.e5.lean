/-! OVER A TREE: a round of a loop, and its end -/
theorem ar_c2 {A P1 P2 Tc R2 s2 l2 F2 s3 l3 v15 v780 Λ X : Nat} (hcc : P2 + Tc ≤ P1 + R2) (pg2 : 52 * (s2 + l2 + F2) ≤ P2) (cv : 52 * v15 = v780) (b3 : s3 + l3 ≤ s2 + l2 + 1 + v15) (h1 : P1 ≤ A + X + 104 + Λ) : 52 * (s3 + l3 + F2) + Λ + Tc ≤ A + (X + 156 + 2 * Λ + v780 + R2) := by omega
theorem ar_c3 {A5 P2 Λ F s lL e s1 l1 s2 l2 F2 s3 l3 R : Nat} (N : P2 ≤ 52 * (s1 + l1 + F) + Λ + R) (pg5 : 52 * (s + lL + F) ≤ A5) (pg6 : 52 * (s2 + l2 + F2) ≤ P2) (b1 : s1 + l1 ≤ s + lL + 4 * e + 2) (b3 : s3 + l3 ≤ s2 + l2 + 1) : 52 * (s3 + l3 + F2) + Λ ≤ A5 + (208 * e + 156 + 2 * Λ + R) := by omega
section TiP
variable {ω : q_W} {d p V : Nat} {σ0 : q_H} {WI WU : Nat → Int} {S : List q_St} {K : q_H → Prop} {ka lam b x y T BUD : Nat}
/-- one round: from the test to the test again -/
theorem t_round {dp i lp as w1 a1 q fm n s jj : Nat} {l1 : List q_St} {e : q_Ex} {σ : q_H} {L : q_Lr} {dn : Nat → Bool} {ot : Nat} (hd : 7 ≤ d) (hc : CT0 p V WI WU S σ0) (hBUD : BUD ≤ 532012) (hdp : dp ≤ 30) (pe : PE (cI WI WU V) e ∧ hB e.1 0 = some 1) (hb : TCl ω d p V WI WU S σ0 K ka lam b x y T BUD false (dp + 1) (i + 2) (lp + 1) as l1 w1 a1) (h0 : S[i + 1]? = some (8, (lp : Int), (jj : Int), e.1)) (A2 : At S (i + 2) l1) (h9 : S[i + 2 + l1.length]? = some (9, 0, ((i + 1 : Nat) : Int), [])) (hi : i + 1 ≤ 2048)
    (hl1 : l1.length ≤ 1638) (h5 : a1 ≤ 512) (hq : q ≤ 8) (hf : fm ≤ dp) (hlp : lp ≤ dp) (h : EI p V WI WU fm σ0 σ s L dn ot) (hr : z σ 68 lp = ((q + 1 : Nat) : Int)) (hpot : pot V lam b s L σ dn ot + (208 * e.2.2.1 + (156 + lam * (12 + V) + 780 * V + (ka * w1 + x * wWs l1 + y * l1.length))) ≤ BUD) (hst : 8 * n + (16 + EB8 V l1.length w1) ≤ 7999992)
    (kk : ∀ (τ : q_H) (s' : Nat) (L' : q_Lr) (n' : Nat) (c : Bool), EI p V WI WU fm σ0 τ s' L' (fun _ => false) 0 → ME s s' σ τ → (∀ k, k < 96 * fm → z τ 64 k = z σ 64 k) → (∀ k, k < fm → z τ 65 k = z σ 65 k ∧ z τ 66 k = z σ 66 k ∧ z τ 67 k = z σ 67 k) → (∀ k, k < lp → z τ 68 k = z σ 68 k) → z τ 68 lp = (q : Int) → (∀ v, CSv s' τ v → ∃ G2 U2 F2, SMr S WU (IvN σ v) anyR (i + 2) (i + 2 + l1.length) (lp + 1) (lvb v (z σ 48 4) && decide (wth (IvN σ v) (UvN σ v) e.1 ≠ 0)) (UvN σ v) (FvN σ v) G2 U2 F2 ∧ lvb v (z τ 48 4) = (G2 || (lvb v (z σ 48 4) && !decide (wth (IvN σ v) (UvN σ v) e.1 ≠ 0))) ∧ UvN τ v = (if decide (wth (IvN σ v) (UvN σ v) e.1 ≠ 0) then U2 else UvN σ v) ∧ FvN τ v = F2) → (c = false → (∀ j, j < 96 → z τ 62 j = z σ 62 j) ∧ (V = 1 → pot V 52 b s' L' τ (fun _ => false) 0 ≤ pot V 52 b s L σ dn ot + (208 * e.2.2.1 + 156 + 2 * (52 * (12 + V)) + ka * w1))) → pot V lam b s' L' τ (fun _ => false) 0 + T * c.toNat ≤ pot V lam b s L σ dn ot + (208 * e.2.2.1 + 156 + 2 * (lam * (12 + V)) + 780 * V * c.toNat + (ka * w1 + x * wWs l1 + y * l1.length)) → 8 * n' ≤ 8 * n + (16 + EB8 V l1.length w1) →
      J ω m_En_encode (d + 1) 0 0 0 0 54 [(0, .ref 48), (2, .int (zI ((i + 1 : Nat) : Int))), (3, .int (zI (n' : Int)))] [] τ (q_kv K)) : J ω m_En_encode (d + 1) 0 0 0 0 54 [(0, .ref 48), (2, .int (zI ((i + 1 : Nat) : Int))), (3, .int (zI (n : Int)))] [] σ (q_kv K) := by
  obtain ⟨-, b2, b3, b4⟩ := hb
  have pg := pot_ge (V := V) (lam := lam) (b := b) (s := s) (L := L) (σ := σ) (dn := dn) (ot := ot)
  have fm31 : fm ≤ 31 := by clear hpot pg hst; omega
  have fm1 : fm + 1 ≤ dp + 1 := Nat.succ_le_succ hf
  have lp1 : lp + 1 ≤ dp + 1 := Nat.succ_le_succ hlp
  have lp32 : lp < 32 := by clear hpot pg hst; omega
  have fl : fm < fm + 1 := Nat.lt_succ_self _
  have j96 : ∀ j, j < 96 → 96 * fm + j < 96 * (fm + 1) := fun j hj => by clear hpot pg hst; omega
  have k96 : ∀ j, j < 96 * fm → j < 96 * (fm + 1) := fun j hj => by clear hpot pg hst; omega
  have n1 := ar_n1 (E1 := EB8 V l1.length w1) (a := 16) hst (by rw [Nat.add_comm]; exact Nat.le_refl _) (by decide)
  generalize hR2 : ka * w1 + x * wWs l1 + y * l1.length = R2 at *
  have hR : R2 + 104 + lam * (12 + V) ≤ 156 + lam * (12 + V) + 780 * V + R2 := by
    generalize lam * (12 + V) = Λ
    clear hpot pg hst n1 hR2
    omega
  refine L_test1 hd hc h h0 pe.1 pe.2 lp32 hr hq fm31 n1.1 (ar_r hpot pg (Nat.le_refl _) hBUD) (fun τ1 s1 L1 r e1 me1 fk n68 e68 b1 v1 => ?_)
  obtain ⟨k1, k2, k3, k4, k5, k6, k7, k8⟩ := fk
  have f63 : z τ1 63 = z σ 63 := k1 63 (by decide) (by decide) (by decide) (by decide) (by decide) (by decide)
  have f62 : z τ1 62 = z σ 62 := k1 62 (by decide) (by decide) (by decide) (by decide) (by decide) (by decide)
  have p1 := pot_0 (V := V) (lam := lam) (b := b) (s := s1) (L := L1) (σ := τ1)
  rw [nf_cg f63] at p1
  have bf := ar_f hpot pg (Nat.le_refl _) b1 p1 hR
  refine b4 A2 hl1 h5 (fm + 1) (n + 1) s1 τ1 L1 (fun _ => false) 0 fm1 lp1 e1 bf.1 n1.2 (fun τ2 s2 L2 dn2 ot2 n2 e2 me2 tr2 pt2 bn2 => ?_)
  obtain ⟨c1, hcf, hcc⟩ := pt2
  obtain ⟨t1, t2, t3, t4⟩ := tr2
  obtain ⟨t21, t22, t23⟩ := t2 fm fl
  have n2' := ar_n2 (E1 := EB8 V l1.length w1) hst (by rw [Nat.add_comm]; exact Nat.le_refl _) bn2
  have pg2 := pot_ge (V := V) (lam := lam) (b := b) (s := s2) (L := L2) (σ := τ2) (dn := dn2) (ot := ot2)
  have e64 : ∀ j, j < 96 → z τ2 64 (96 * fm + j) = z σ 62 j := fun j hj => by rw [t1 _ (j96 j hj), k3 j hj]
  have cv8 : 8 * V * c1.toNat ≤ 8 * V := by cases c1 <;> simp
  have cv15 : 52 * (15 * V * c1.toNat) = 780 * V * c1.toNat := by
    cases c1
    · simp
    · simp only [show true.toNat = 1 from rfl, Nat.mul_one]
      rw [← Nat.mul_assoc]
  have rm : pot V lam b s1 L1 τ1 (fun _ => false) 0 + R2 + 416 * V ≤ BUD := by
    refine Nat.le_trans ?_ hpot
    have q := bf.2
    generalize pot V lam b s1 L1 τ1 (fun _ => false) 0 = Y at *
    generalize pot V lam b s L σ dn ot = Z at *
    generalize lam * (12 + V) = Λ at *
    clear hpot bf hcc hst n1 n2' pg pg2 p1 hR hR2 b1 bn2 cv8 cv15
    omega
  refine L_again c1 hd hc e2 h9 hi n2'.1 (fun q j hj => ?_) ⟨z τ1 48 4, by rw [t22, t23, k5, k6]; exact RA_GM k8 me2.2.2⟩ ⟨z τ1 65 fm, by rw [t22, t23, k5, k6]; exact RA_GM k7 me2.2.2⟩ (ar_j hcc pg2 cv8 rm hBUD) (fun τ3 s3 L3 e3 me3 o3 b3' same val => ?_)
  · rw [(hcf q).1 j hj, f62, e64 j hj]
  have g63 : z τ3 63 = z τ2 63 := o3 63 (by decide) (by decide)
  have p3 : ∀ la, pot V la b s3 L3 τ3 (fun _ => false) 0 = 52 * (s3 + lsum L3 + nf τ2) + la * (12 + V) := fun la => by rw [pot_0, nf_cg g63]
  refine kk τ3 s3 L3 (n2 + 1) c1 e3 (ME_tr (ME_tr me1 me2) me3) (fun j hj => ?_) (fun j hj => ?_) (fun j hj => ?_) ?_ (fun v cv => ?_) (fun q' => ⟨fun j hj => ?_, fun hV => ?_⟩) ?_ n2'.2
  · rw [o3 64 (by decide) (by decide), t1 j (k96 j hj), k2 j hj]
  · obtain ⟨q1, q2, q3⟩ := t2 j (Nat.lt_succ_of_lt hj)
    obtain ⟨q4, q5, q6⟩ := k4 j hj
    rw [o3 65 (by decide) (by decide), o3 66 (by decide) (by decide), o3 67 (by decide) (by decide), q1, q2, q3, q4, q5, q6]
    exact ⟨rfl, rfl, rfl⟩
  · rw [o3 68 (by decide) (by decide), t3 j (Nat.lt_succ_of_lt hj), n68 j (Nat.ne_of_lt hj)]
  · rw [o3 68 (by decide) (by decide), t3 lp (Nat.lt_succ_self _), e68]
  · have cv2 := CSv_GM cv me3.2.2
    have cv1 := CSv_GM cv2 me2.2.2
    obtain ⟨r1, r2, r3⟩ := v1 v cv1
    obtain ⟨j1, j2⟩ := val v cv
    have bd := t4 v cv2
    rw [IvN_cg (k1 61 (by decide) (by decide) (by decide) (by decide) (by decide) (by decide)), UvN_cg (σ := σ) (τ := τ1) (fun j _ => by rw [f62]), FvN_cg f63, r2, r1] at bd
    rw [r1] at r3
    rw [t23, k6] at j1
    rw [r1] at j1
    rw [t21, r3] at j2
    exact ⟨_, _, _, bd, j2, U_ite e64 j1, FvN_cg g63⟩
  · rw [same q' j hj, (hcf q').1 j hj, f62]
  · have N := (hcf q').2 hV
    rw [pot_0, nf_cg f63] at N
    have pg5 := pot_ge (V := V) (lam := 52) (b := b) (s := s) (L := L) (σ := σ) (dn := dn) (ot := ot)
    have pg6 := pot_ge (V := V) (lam := 52) (b := b) (s := s2) (L := L2) (σ := τ2) (dn := dn2) (ot := ot2)
    rw [p3]
    rw [q'] at b3'
    rw [show false.toNat = 0 from rfl, Nat.mul_zero] at b3'
    exact ar_c3 N pg5 pg6 b1 b3'
  · rw [p3]
    exact ar_c2 hcc pg2 cv15 b3' bf.2
theorem ar_l1 {s' l' u' o' s lL u o e b ka n4 : Nat} (h : 52 * (s' + l') + u' + o' ≤ 52 * (s + lL) + u + o + 208 * e + b) (m2 : 208 * e + b ≤ ka) : 52 * (s' + l' + n4) + u' + o' ≤ 52 * (s + lL + n4) + u + o + ka := by omega
theorem ar_l2 {s' l' u' o' s lL u o lam ka n4 x : Nat} (h : 52 * (s' + l') + u' + o' + lam ≤ 52 * (s + lL) + u + o + 52) (m2 : 52 ≤ lam + x) : 52 * (s' + l' + n4) + u' + o' ≤ 52 * (s + lL + n4) + u + o + (ka + x) := by omega
/-- the end of a loop -/
theorem t_last {i lp fm n s jj : Nat} {e : q_Ex} {σ : q_H} {L : q_Lr} {dn : Nat → Bool} {ot : Nat} (hd : 7 ≤ d) (hc : CT0 p V WI WU S σ0) (hP : PRM V ka lam b x y T) (hBUD : BUD ≤ 532012) (pe : PE (cI WI WU V) e ∧ hB e.1 0 = some 1) (h0 : S[i]? = some (8, (lp : Int), (jj : Int), e.1)) (hj : jj ≤ 2048) (hlp : lp < 32) (h : EI p V WI WU fm σ0 σ s L dn ot) (hr : z σ 68 lp = 0) (hpot : pot V lam b s L σ dn ot + (ka * e.2.2.1 + x) ≤ BUD) (hst : n < 1000000)
    (kk : ∀ (τ : q_H) (s' : Nat) (L' : q_Lr) (dn' : Nat → Bool) (ot' : Nat), EI p V WI WU fm σ0 τ s' L' dn' ot' → ME s s' σ τ → (∀ o, 61 ≤ o → o ≠ 69 → z τ o = z σ o) → (∀ v, CSv s' τ v → lvb v (z τ 48 4) = (lvb v (z σ 48 4) && !decide (wth (IvN σ v) (UvN σ v) e.1 ≠ 0))) → (V = 1 → pot V 52 b s' L' τ dn' ot' ≤ pot V 52 b s L σ dn ot + ka * e.2.2.1) → pot V lam b s' L' τ dn' ot' ≤ pot V lam b s L σ dn ot + (ka * e.2.2.1 + x) →
      J ω m_En_encode (d + 1) 0 0 0 0 54 [(0, .ref 48), (2, .int (zI (jj : Int))), (3, .int (zI ((n + 1 : Nat) : Int)))] [] τ (q_kv K)) : J ω m_En_encode (d + 1) 0 0 0 0 54 [(0, .ref 48), (2, .int (zI (i : Int))), (3, .int (zI (n : Int)))] [] σ (q_kv K) := by
  obtain ⟨⟨P1, P2, P3, P4, P5⟩, -, -, -, PN, -⟩ := hP
  have pg := pot_ge (V := V) (lam := lam) (b := b) (s := s) (L := L) (σ := σ) (dn := dn) (ot := ot)
  have m1 := Nat.mul_le_mul_right e.2.2.1 P4
  refine L_test0 hd hc h h0 pe.1 pe.2 hlp hj hr hst (ar_r hpot pg m1 hBUD) (fun τ s' L' dn' ot' e1 e2 e3 e4 e5 => ?_)
  have f63 := e3 63 (by decide) (by decide)
  refine kk τ s' L' dn' ot' e1 e2 e3 e5 (fun hV => ?_) ?_
  · obtain ⟨N1, N2, N3, N4, N5⟩ := PN hV
    obtain ⟨q1, q2⟩ := e4 52 b (by rw [hV]; exact N1)
    unfold pot
    rw [nf_cg f63]
    by_cases c : e.2.2.1 = 0
    · have q := q2 c (Nat.le_refl _)
      exact Nat.le_trans (ar_l2 (x := 0) (ka := ka * e.2.2.1) q (by decide)) (Nat.le_refl _)
    · have q := q1 (Nat.pos_of_ne_zero c)
      obtain ⟨w, hw⟩ : ∃ w, e.2.2.1 = w + 1 := ⟨e.2.2.1 - 1, by clear hpot pg m1 q q1 q2; omega⟩
      have m4 := Nat.mul_le_mul_right w P4
      have m5 : ka * e.2.2.1 = ka * w + ka := by rw [hw, Nat.mul_succ]
      refine ar_l1 q ?_
      clear hpot pg m1 q q1 q2 e4
      omega
  · obtain ⟨q1, q2⟩ := e4 lam b P1
    unfold pot
    rw [nf_cg f63]
    by_cases c : e.2.2.1 = 0
    · exact ar_l2 (q2 c P2) P3
    · have q := q1 (Nat.pos_of_ne_zero c)
      obtain ⟨w, hw⟩ : ∃ w, e.2.2.1 = w + 1 := ⟨e.2.2.1 - 1, by clear hpot pg m1 q q1 q2; omega⟩
      have m4 := Nat.mul_le_mul_right w P4
      have m5 : ka * e.2.2.1 = ka * w + ka := by rw [hw, Nat.mul_succ]
      refine ar_l1 q ?_
      clear hpot pg m1 q q1 q2 e4
      omega
end TiP
