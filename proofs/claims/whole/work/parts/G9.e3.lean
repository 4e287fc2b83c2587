/-! OVER A TREE: the sums -/
theorem ar_r {A BUD ke R s lL F e : Nat} (hpot : A + (ke + R) ≤ BUD) (pg : 52 * (s + lL + F) ≤ A) (m1 : 208 * e ≤ ke) (hB : BUD ≤ 532012) : s + lL + 4 * e + 8 < 10240 := by omega
theorem ar_f {A BUD ke R R2 s lL F e s1 l1 Λ P : Nat} (hpot : A + (ke + R) ≤ BUD) (pg : 52 * (s + lL + F) ≤ A) (m1 : 208 * e ≤ ke) (b1 : s1 + l1 ≤ s + lL + 4 * e + 2) (p1 : P = 52 * (s1 + l1 + F) + Λ) (hR : R2 + 104 + Λ ≤ R) : P + R2 ≤ BUD ∧ P ≤ A + ke + 104 + Λ := by omega
theorem ar_j {BUD P1 P2 Tc R2 s2 l2 F2 v8 V : Nat} (hcc : P2 + Tc ≤ P1 + R2) (pg2 : 52 * (s2 + l2 + F2) ≤ P2) (cv8 : v8 ≤ 8 * V) (hB : P1 + R2 + 416 * V ≤ BUD) (hBUD : BUD ≤ 532012) : s2 + v8 < 10240 := by omega
theorem ar_c {P1 P2 Tc Tc' R2 s2 l2 F2 s3 l3 v15 V Λ : Nat} (hcc : P2 + Tc ≤ P1 + R2) (pg2 : 52 * (s2 + l2 + F2) ≤ P2) (cv15 : v15 ≤ 15 * V) (b3 : s3 + l3 ≤ s2 + l2 + 1 + v15) (hT : Tc' ≤ Tc) : 52 * (s3 + l3 + F2) + Λ + Tc' ≤ P1 + R2 + 52 + 780 * V + Λ := by omega
theorem ar_n1 {n E E1 a : Nat} (h : 8 * n + E ≤ 7999992) (ea : E1 + a ≤ E) (h8 : 8 ≤ a) : n < 1000000 ∧ 8 * (n + 1) + E1 ≤ 7999992 := by omega
theorem ar_n2 {n n2 E E1 : Nat} (h : 8 * n + E ≤ 7999992) (ea : E1 + 16 ≤ E) (bn : 8 * n2 ≤ 8 * (n + 1) + E1) : n2 < 1000000 ∧ 8 * (n2 + 1) ≤ 8 * n + E := by omega
section TgP
variable {ω : q_W} {d p V : Nat} {σ0 : q_H} {WI WU : Nat → Int} {S : List q_St} {K : q_H → Prop} {ka lam b x y T BUD : Nat}
theorem t_if {dp i lp as w1 a1 : Nat} {l1 : List q_St} {e : q_Ex} (hd : 7 ≤ d) (hc : CT0 p V WI WU S σ0) (hP : PRM V ka lam b x y T) (hBUD : BUD ≤ 532012) (hdp : dp ≤ 30) (pe : PE (cI WI WU V) e ∧ hB e.1 0 = some 1) (hb : TCl ω d p V WI WU S σ0 K ka lam b x y T BUD false (dp + 1) (i + 1) lp as l1 w1 a1) : TCl ω d p V WI WU S σ0 K ka lam b x y T BUD false dp i lp as ((4, 0, ((i + 1 + l1.length : Nat) : Int), e.1) :: (l1 ++ [(6, 0, 0, [])])) (e.2.2.1 + w1 + 8 * V) a1 := by
  obtain ⟨-, b2, b3, b4⟩ := hb
  have ws : wWs ((4, 0, ((i + 1 + l1.length : Nat) : Int), e.1) :: (l1 ++ [(6, 0, 0, [])])) = wWs l1 := by
    show (if (4 : Int) = 8 then 1 else 0) + wWs (l1 ++ [(6, 0, 0, [])]) = _
    rw [wWs_app, wWs_1 (by decide), if_neg (by decide)]; omega
  have ll : ((4, 0, ((i + 1 + l1.length : Nat) : Int), e.1) :: (l1 ++ [(6, 0, 0, [])]) : List q_St).length = l1.length + 2 := by simp
  refine ⟨fun _ => hdp, by rw [ws, ll]; omega, b3, fun hA hl h5 fm n s σ L dn ot hf hlp h hpot hst kk => ?_⟩
  obtain ⟨a0, A1⟩ := At_cons hA
  obtain ⟨A2, A3⟩ := At_app A1
  have a3 := (At_cons A3).1
  rw [ll] at hl hst kk hpot
  rw [ws] at hpot kk
  have fm31 : fm ≤ 31 := by omega
  have fm1 : fm + 1 ≤ dp + 1 := by omega
  have lp1 : lp ≤ dp + 1 := by omega
  have ll1 : l1.length ≤ 1638 := by omega
  have fl : fm < fm + 1 := Nat.lt_succ_self _
  have j96 : ∀ j, j < 96 → 96 * fm + j < 96 * (fm + 1) := fun j hj => by omega
  have k96 : ∀ j, j < 96 * fm → j < 96 * (fm + 1) := fun j hj => by omega
  obtain ⟨⟨P1, P2, P3, P4, P5⟩, -, P6, -, PN, -⟩ := hP
  have pg := pot_ge (V := V) (lam := lam) (b := b) (s := s) (L := L) (σ := σ) (dn := dn) (ot := ot)
  have m1 := Nat.mul_le_mul_right e.2.2.1 P4
  have m2 : ka * (e.2.2.1 + w1 + 8 * V) + x * wWs l1 + y * (l1.length + 2) = ka * e.2.2.1 + (ka * w1 + x * wWs l1 + y * l1.length + (8 * V * ka + 2 * y)) := by
    rw [Nat.mul_add, Nat.mul_add, Nat.mul_comm ka (8 * V), Nat.mul_add y]; omega
  have ea := EB8_a (V := V) (L := l1.length) (w1 := w1) (w := e.2.2.1 + w1 + 8 * V) (a := 2) (by omega)
  have n1 := ar_n1 hst ea (by decide)
  have kwe : ka * (e.2.2.1 + w1 + 8 * V) = ka * e.2.2.1 + ka * w1 + 8 * V * ka := by rw [Nat.mul_add, Nat.mul_add, Nat.mul_comm ka (8 * V)]
  rw [m2] at hpot kk
  refine L_if hd hc h a0 pe.1 pe.2 fm31 n1.1 (ar_r hpot pg m1 hBUD) (fun τ1 s1 L1 r e1 me1 fk e68 b1 v1 => ?_)
  obtain ⟨k1, k2, k3, k4, k5, k6, k7, k8⟩ := fk
  have f63 : z τ1 63 = z σ 63 := k1 63 (by decide) (by decide) (by decide) (by decide) (by decide) (by decide)
  have f62 : z τ1 62 = z σ 62 := k1 62 (by decide) (by decide) (by decide) (by decide) (by decide) (by decide)
  have p1 := pot_0 (V := V) (lam := lam) (b := b) (s := s1) (L := L1) (σ := τ1)
  rw [nf_cg f63] at p1
  have hR : (ka * w1 + x * wWs l1 + y * l1.length) + 104 + lam * (12 + V) ≤ ka * w1 + x * wWs l1 + y * l1.length + (8 * V * ka + 2 * y) := by
    generalize ka * w1 + x * wWs l1 + y * l1.length = X
    clear hpot m2 kwe p1
    omega
  have bf := ar_f hpot pg m1 b1 p1 hR
  refine b4 A2 ll1 h5 (fm + 1) (n + 1) s1 τ1 L1 (fun _ => false) 0 fm1 lp1 e1 bf.1 n1.2 (fun τ2 s2 L2 dn2 ot2 n2 e2 me2 tr2 pt2 bn2 => ?_)
  obtain ⟨c1, hcf, hcc⟩ := pt2
  obtain ⟨t1, t2, t3, t4⟩ := tr2
  obtain ⟨t21, t22, t23⟩ := t2 fm fl
  have n2' := ar_n2 hst ea bn2
  have pg2 := pot_ge (V := V) (lam := lam) (b := b) (s := s2) (L := L2) (σ := τ2) (dn := dn2) (ot := ot2)
  have e64 : ∀ j, j < 96 → z τ2 64 (96 * fm + j) = z σ 62 j := fun j hj => by rw [t1 _ (j96 j hj), k3 j hj]
  have cv8 : 8 * V * c1.toNat ≤ 8 * V := by cases c1 <;> simp
  have cv15 : 15 * V * c1.toNat ≤ 15 * V := by cases c1 <;> simp
  have hR2 : pot V lam b s1 L1 τ1 (fun _ => false) 0 + (ka * w1 + x * wWs l1 + y * l1.length) + 52 + 780 * V + lam * (12 + V) ≤ pot V lam b s L σ dn ot + (ka * e.2.2.1 + (ka * w1 + x * wWs l1 + y * l1.length + (8 * V * ka + 2 * y))) := by
    have q := bf.2
    generalize ka * w1 + x * wWs l1 + y * l1.length = X
    generalize pot V lam b s1 L1 τ1 (fun _ => false) 0 = Y at *
    generalize pot V lam b s L σ dn ot = Z at *
    clear hpot m2 kwe p1 bf hcc hR
    omega
  have hR3 : pot V lam b s1 L1 τ1 (fun _ => false) 0 + (ka * w1 + x * wWs l1 + y * l1.length) + 416 * V ≤ BUD := by
    refine Nat.le_trans ?_ hpot
    refine Nat.le_trans ?_ hR2
    generalize pot V lam b s1 L1 τ1 (fun _ => false) 0 + (ka * w1 + x * wWs l1 + y * l1.length) = X
    generalize lam * (12 + V) = Y
    clear hpot m2 kwe p1 bf hcc hR hR2 pg pg2 m1 ea n1 n2' P6 P5 P4 P3 P2 P1 b1 bn2 hst
    omega
  refine L_join c1 hd hc e2 a3 n2'.1 (fun q j hj => ?_) ⟨z τ1 48 4, by rw [t22, t23, k5, k6]; exact RA_GM k8 me2.2.2⟩ ⟨z τ1 65 fm, by rw [t22, t23, k5, k6]; exact RA_GM k7 me2.2.2⟩ (ar_j hcc pg2 cv8 hR3 hBUD) (fun τ3 s3 L3 e3 me3 o3 b3' same val => ?_)
  · rw [(hcf q).1 j hj, f62, e64 j hj]
  have g63 : z τ3 63 = z τ2 63 := o3 63 (by decide) (by decide)
  have p3 : ∀ la, pot V la b s3 L3 τ3 (fun _ => false) 0 = 52 * (s3 + lsum L3 + nf τ2) + la * (12 + V) := fun la => by rw [pot_0, nf_cg g63]
  rw [show ((i + 1 + l1.length + 1 : Nat) : Int) = ((i + (l1.length + 2) : Nat) : Int) by congr 1; rw [Nat.add_assoc, Nat.add_assoc]; congr 1; exact Nat.add_comm 1 _ |>.symm ▸ rfl]
  refine kk τ3 s3 L3 (fun _ => false) 0 (n2 + 1) e3 (ME_tr (ME_tr me1 me2) me3) ⟨fun j hj => ?_, fun j hj => ?_, fun j hj => ?_, fun v cv => ?_⟩ ⟨c1, fun q => ⟨fun j hj => ?_, fun hV => ?_⟩, ?_⟩ n2'.2
  · rw [o3 64 (by decide) (by decide), t1 j (k96 j hj), k2 j hj]
  · obtain ⟨q1, q2, q3⟩ := t2 j (Nat.lt_succ_of_lt hj)
    obtain ⟨q4, q5, q6⟩ := k4 j hj
    rw [o3 65 (by decide) (by decide), o3 66 (by decide) (by decide), o3 67 (by decide) (by decide), q1, q2, q3, q4, q5, q6]
    exact ⟨rfl, rfl, rfl⟩
  · rw [o3 68 (by decide) (by decide), t3 j hj, e68]
  · have cv2 := CSv_GM cv me3.2.2
    have cv1 := CSv_GM cv2 me2.2.2
    obtain ⟨r1, r2, r3⟩ := v1 v cv1
    obtain ⟨j1, j2⟩ := val v cv
    have bd := t4 v cv2
    rw [IvN_cg (k1 61 (by decide) (by decide) (by decide) (by decide) (by decide) (by decide)), UvN_cg (σ := σ) (τ := τ1) (fun j _ => by rw [f62]), FvN_cg f63, r2, r1] at bd
    rw [r1] at r3
    rw [t23, k6] at j1
    rw [r1] at j1
    rw [t21, r3] at j2
    exact SM_if a0 a3 bd j2 (U_ite e64 j1) (FvN_cg g63)
  · rw [same q j hj, (hcf q).1 j hj, f62]
  · have N := (hcf q).2 hV
    rw [pot_0, nf_cg f63] at N
    have pg5 := pot_ge (V := V) (lam := 52) (b := b) (s := s) (L := L) (σ := σ) (dn := dn) (ot := ot)
    have pg6 := pot_ge (V := V) (lam := 52) (b := b) (s := s2) (L := L2) (σ := τ2) (dn := dn2) (ot := ot2)
    rw [p3, kwe]
    rw [q] at b3'
    rw [show false.toNat = 0 from rfl, Nat.mul_zero] at b3'
    have PN2 := (PN hV).2.1
    have hq1 : 8 * V * ka = 8 * ka := by rw [hV]
    have l52 : 52 * (12 + V) = 676 := by rw [hV]
    rw [hq1, l52]
    rw [l52] at N
    clear hpot m2 kwe p1 bf hcc hR hR2 hR3 pg pg2 ea n1 n2' P6 P5 P4 P3 P2 P1 bn2 hst hl h5 hf hlp fm31 fm1 lp1 ll1 cv8 cv15 hq1 l52 p3 hd hBUD hdp b2 b3
    omega
  · rw [p3]
    exact Nat.le_trans (ar_c hcc pg2 cv15 b3' (Nat.le_refl _)) hR2
end TgP
