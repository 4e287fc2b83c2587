/-! OVER A TREE: two ways -/
theorem ar_w {P1 P2 Tc R2 s2 l2 F2 Λ P3 R4 BUD : Nat} (hcc : P2 + Tc ≤ P1 + R2) (pg2 : 52 * (s2 + l2 + F2) ≤ P2) (p3 : P3 = 52 * (s2 + l2 + F2) + Λ) (hB : P1 + R2 + Λ + R4 ≤ BUD) : P3 + R4 ≤ BUD ∧ P3 + Tc ≤ P1 + R2 + Λ := by omega
theorem ar_n3 {n n2 n4 E E1 E2 : Nat} (h : 8 * n + E ≤ 7999992) (ea : E1 + E2 + 24 ≤ E) (bn : 8 * n2 ≤ 8 * (n + 1) + E1) : n2 < 1000000 ∧ 8 * (n2 + 1) + E2 ≤ 7999992 ∧ (8 * n4 ≤ 8 * (n2 + 1) + E2 → n4 < 1000000 ∧ 8 * (n4 + 1) ≤ 8 * n + E) := by omega
theorem ar_2 {P3 P4 T1 T2 Tc R4 s4 l4 F4 s5 l5 v15 V Λ M : Nat} (hdc : P4 + T2 ≤ P3 + R4) (h3 : P3 + T1 ≤ M) (pg4 : 52 * (s4 + l4 + F4) ≤ P4) (cv15 : v15 ≤ 15 * V) (b5 : s5 + l5 ≤ s4 + l4 + 1 + v15) (hT : Tc ≤ T1 + T2) : 52 * (s5 + l5 + F4) + Λ + Tc ≤ M + R4 + 52 + 780 * V + Λ := by omega
section ThP
variable {ω : q_W} {d p V : Nat} {σ0 : q_H} {WI WU : Nat → Int} {S : List q_St} {K : q_H → Prop} {ka lam b x y T BUD : Nat}
theorem t_ife {dp i lp as w1 a1 w2 a2 : Nat} {l1 l2 : List q_St} {e : q_Ex} (hd : 7 ≤ d) (hc : CT0 p V WI WU S σ0) (hP : PRM V ka lam b x y T) (hBUD : BUD ≤ 532012) (hdp : dp ≤ 30) (pe : PE (cI WI WU V) e ∧ hB e.1 0 = some 1) (hb : TCl ω d p V WI WU S σ0 K ka lam b x y T BUD false (dp + 1) (i + 1) lp as l1 w1 a1) (hb2 : TCl ω d p V WI WU S σ0 K ka lam b x y T BUD false (dp + 1) (i + 1 + l1.length + 1) lp a1 l2 w2 a2) : TCl ω d p V WI WU S σ0 K ka lam b x y T BUD false dp i lp as ((4, 0, ((i + 1 + l1.length + 1 : Nat) : Int), e.1) :: (l1 ++ (5, 0, ((i + 1 + l1.length + 1 + l2.length : Nat) : Int), []) :: (l2 ++ [(6, 0, 0, [])]))) (e.2.2.1 + w1 + w2 + 8 * V) a2 := by
  obtain ⟨-, b2, b3, b4⟩ := hb
  obtain ⟨-, d2, d3, d4⟩ := hb2
  have ws : wWs ((4, 0, ((i + 1 + l1.length + 1 : Nat) : Int), e.1) :: (l1 ++ (5, 0, ((i + 1 + l1.length + 1 + l2.length : Nat) : Int), []) :: (l2 ++ [(6, 0, 0, [])]))) = wWs l1 + wWs l2 := by
    show (if (4 : Int) = 8 then 1 else 0) + wWs (l1 ++ (5, 0, ((i + 1 + l1.length + 1 + l2.length : Nat) : Int), []) :: (l2 ++ [(6, 0, 0, [])])) = _
    rw [wWs_app, if_neg (by decide)]
    show 0 + (wWs l1 + ((if (5 : Int) = 8 then 1 else 0) + wWs (l2 ++ [(6, 0, 0, [])]))) = _
    rw [wWs_app, wWs_1 (by decide), if_neg (by decide)]; omega
  have ll : ((4, 0, ((i + 1 + l1.length + 1 : Nat) : Int), e.1) :: (l1 ++ (5, 0, ((i + 1 + l1.length + 1 + l2.length : Nat) : Int), []) :: (l2 ++ [(6, 0, 0, [])])) : List q_St).length = l1.length + l2.length + 3 := by simp; omega
  refine ⟨fun _ => hdp, by rw [ws, ll]; omega, by omega, fun hA hl h5 fm n s σ L dn ot hf hlp h hpot hst kk => ?_⟩
  obtain ⟨a0, A1⟩ := At_cons hA
  obtain ⟨A2, A3⟩ := At_app A1
  obtain ⟨a3, A4⟩ := At_cons A3
  obtain ⟨A5, A6⟩ := At_app A4
  have a6 := (At_cons A6).1
  rw [ll] at hl hst kk hpot
  rw [ws] at hpot kk
  have fm31 : fm ≤ 31 := by omega
  have fm1 : fm + 1 ≤ dp + 1 := by omega
  have lp1 : lp ≤ dp + 1 := by omega
  have ll1 : l1.length ≤ 1638 := by omega
  have ll2 : l2.length ≤ 1638 := by omega
  have a512 : a1 ≤ 512 := by omega
  have fl : fm < fm + 1 := Nat.lt_succ_self _
  have j96 : ∀ j, j < 96 → 96 * fm + j < 96 * (fm + 1) := fun j hj => by omega
  have k96 : ∀ j, j < 96 * fm → j < 96 * (fm + 1) := fun j hj => by omega
  have eend : i + 1 + l1.length + 1 + l2.length + 1 = i + (l1.length + l2.length + 3) := by omega
  obtain ⟨⟨P1, P2, P3, P4, P5⟩, -, P6, -, PN, -⟩ := hP
  have pg := pot_ge (V := V) (lam := lam) (b := b) (s := s) (L := L) (σ := σ) (dn := dn) (ot := ot)
  have m1 := Nat.mul_le_mul_right e.2.2.1 P4
  have kwe : ka * (e.2.2.1 + w1 + w2 + 8 * V) = ka * e.2.2.1 + ka * w1 + ka * w2 + 8 * V * ka := by rw [Nat.mul_add, Nat.mul_add, Nat.mul_add, Nat.mul_comm ka (8 * V)]
  have m2 : ka * (e.2.2.1 + w1 + w2 + 8 * V) + x * (wWs l1 + wWs l2) + y * (l1.length + l2.length + 3) = ka * e.2.2.1 + ((ka * w1 + x * wWs l1 + y * l1.length) + (ka * w2 + x * wWs l2 + y * l2.length) + (8 * V * ka + 3 * y)) := by
    rw [kwe, Nat.mul_add x, Nat.mul_add y, Nat.mul_add y]; omega
  have ea0 := EB8_add (V := V) (L1 := l1.length) (L2 := l2.length) (w1 := w1) (w2 := w2)
  have ea1 := EB8_a (V := V) (L := l1.length + l2.length) (w1 := w1 + w2) (w := e.2.2.1 + w1 + w2 + 8 * V) (a := 3) (by omega)
  have ea : EB8 V l1.length w1 + EB8 V l2.length w2 + 24 ≤ EB8 V (l1.length + l2.length + 3) (e.2.2.1 + w1 + w2 + 8 * V) := Nat.le_trans (Nat.add_le_add_right ea0 24) ea1
  have n1 := ar_n1 (E1 := EB8 V l1.length w1) (a := EB8 V l2.length w2 + 24) hst (by rw [← Nat.add_assoc]; exact ea) (Nat.le_trans (by decide) (Nat.le_add_left 24 _))
  rw [m2] at hpot kk
  clear ea0 ea1 m2
  generalize hR1 : ka * w1 + x * wWs l1 + y * l1.length = R1 at *
  generalize hR2' : ka * w2 + x * wWs l2 + y * l2.length = R2 at *
  refine L_if hd hc h a0 pe.1 pe.2 fm31 n1.1 (ar_r hpot pg m1 hBUD) (fun τ1 s1 L1 r e1 me1 fk e68 b1 v1 => ?_)
  obtain ⟨k1, k2, k3, k4, k5, k6, k7, k8⟩ := fk
  have f63 : z τ1 63 = z σ 63 := k1 63 (by decide) (by decide) (by decide) (by decide) (by decide) (by decide)
  have f62 : z τ1 62 = z σ 62 := k1 62 (by decide) (by decide) (by decide) (by decide) (by decide) (by decide)
  have f61 : z τ1 61 = z σ 61 := k1 61 (by decide) (by decide) (by decide) (by decide) (by decide) (by decide)
  have p1 := pot_0 (V := V) (lam := lam) (b := b) (s := s1) (L := L1) (σ := τ1)
  rw [nf_cg f63] at p1
  have hR : R1 + 104 + lam * (12 + V) ≤ R1 + R2 + (8 * V * ka + 3 * y) := by
    clear hpot kwe p1 hR1 hR2' pg m1 hst n1 ea b1
    omega
  have bf := ar_f hpot pg m1 b1 p1 hR
  have big : pot V lam b s1 L1 τ1 (fun _ => false) 0 + R1 + lam * (12 + V) + R2 + 52 + 780 * V + lam * (12 + V) ≤ pot V lam b s L σ dn ot + (ka * e.2.2.1 + (R1 + R2 + (8 * V * ka + 3 * y))) := by
    have q := bf.2
    generalize pot V lam b s1 L1 τ1 (fun _ => false) 0 = Y at *
    generalize pot V lam b s L σ dn ot = Z at *
    clear hpot kwe p1 bf hR hR1 hR2' pg m1 hst n1 ea b1
    omega
  refine b4 A2 ll1 a512 (fm + 1) (n + 1) s1 τ1 L1 (fun _ => false) 0 fm1 lp1 e1 bf.1 n1.2 (fun τ2 s2 L2 dn2 ot2 n2 e2 me2 tr2 pt2 bn2 => ?_)
  obtain ⟨c1, hcf, hcc⟩ := pt2
  obtain ⟨t1, t2, t3, t4⟩ := tr2
  obtain ⟨t21, t22, t23⟩ := t2 fm fl
  have pg2 := pot_ge (V := V) (lam := lam) (b := b) (s := s2) (L := L2) (σ := τ2) (dn := dn2) (ot := ot2)
  have e64 : ∀ j, j < 96 → z τ2 64 (96 * fm + j) = z σ 62 j := fun j hj => by rw [t1 _ (j96 j hj), k3 j hj]
  refine L_else hd hc e2 a3 (ar_n3 (n4 := 0) hst ea bn2).1 (fun τ3 e3 me3 o3 s64 sx s65 g4 g65 g67 => ?_)
  have h63 : z τ3 63 = z τ2 63 := o3 63 (by decide) (by decide) (by decide) (by decide) (by decide)
  have h61 : z τ3 61 = z τ2 61 := o3 61 (by decide) (by decide) (by decide) (by decide) (by decide)
  have p3 := pot_0 (V := V) (lam := lam) (b := b) (s := s2) (L := L2) (σ := τ3)
  rw [nf_cg h63] at p3
  have bw := ar_w (R4 := R2) (BUD := BUD) hcc pg2 p3 (by
    refine Nat.le_trans ?_ hpot
    refine Nat.le_trans ?_ big
    exact Nat.le_trans (Nat.le_trans (Nat.le_add_right _ 52) (Nat.le_add_right _ (780 * V))) (Nat.le_add_right _ _))
  refine d4 A5 ll2 h5 (fm + 1) (n2 + 1) s2 τ3 L2 (fun _ => false) 0 fm1 lp1 e3 bw.1 (ar_n3 (n4 := 0) hst ea bn2).2.1 (fun τ4 s4 L4 dn4 ot4 n4 e4 me4 tr4 pt4 bn4 => ?_)
  obtain ⟨c2, hdf, hdc⟩ := pt4
  obtain ⟨u1, u2, u3, u4⟩ := tr4
  obtain ⟨u21, u22, u23⟩ := u2 fm fl
  have n4' := (ar_n3 hst ea bn2).2.2 bn4
  have pg4 := pot_ge (V := V) (lam := lam) (b := b) (s := s4) (L := L4) (σ := τ4) (dn := dn4) (ot := ot4)
  have cv8 : 8 * V * (c1 || c2).toNat ≤ 8 * V := by cases c1 <;> cases c2 <;> simp
  have cv15 : 15 * V * (c1 || c2).toNat ≤ 15 * V := by cases c1 <;> cases c2 <;> simp
  have cT : T * (c1 || c2).toNat ≤ T * c1.toNat + T * c2.toNat := by cases c1 <;> cases c2 <;> simp
  have q66 : z τ4 66 fm = z σ 48 4 := by rw [u22, o3 66 (by decide) (by decide) (by decide) (by decide) (by decide), t22, k5]
  have q67 : z τ4 67 fm = zXor r 1 := by rw [u23, g67, t23, k6]
  have gm14 : GM s1 s4 τ1 τ4 := GM_tr me2.2.2 (GM_tr me3.2.2 me4.2.2)
  have lr : lit s1 r := by
    have := (e1.1.2.2.2.2.2.2.2.2.1 fm fl).2.2
    rw [k6] at this; exact this
  have r31 : r < 2147483648 := by have := lr.2; have := (NX_s e1.1).2; clear hpot hst big bf bw hcc hdc; omega
  have xx : zXor (zXor r 1) 1 = r := by
    have s1b := (NX_s e1.1).2
    have q1 := (lit_x s1b lr)
    have q2 := (lit_x s1b q1.1)
    rw [q2.2, q1.2]
    clear hpot hst big bf bw hcc hdc
    omega
  have rm : pot V lam b s2 L2 τ3 (fun _ => false) 0 + R2 + 416 * V ≤ BUD := by
    refine Nat.le_trans ?_ hpot
    refine Nat.le_trans ?_ big
    have q := bw.2
    generalize pot V lam b s1 L1 τ1 (fun _ => false) 0 = Y at *
    generalize pot V lam b s2 L2 τ3 (fun _ => false) 0 = Y3 at *
    clear hpot hst big bf bw hcc hdc p1 p3 pg pg2 pg4 m1 kwe hR hR1 hR2' ea n1 b1 bn2 bn4 n4' P6 P5 P4 P3 P2 P1
    generalize lam * (12 + V) = Λ at *
    generalize T * c1.toNat = TT at *
    omega
  refine L_join (c1 || c2) hd hc e4 a6 n4'.1 (fun q j hj => ?_) ⟨z τ1 65 fm, by rw [q66, q67]; exact RA_GM k7 gm14⟩ ⟨z τ1 48 4, by rw [q66, q67, xx]; exact RA_GM k8 gm14⟩ (ar_j hdc pg4 cv8 rm hBUD) (fun τ5 s5 L5 e5 me5 o5 b5 same val => ?_)
  · obtain ⟨q1, q2⟩ := Bool.or_eq_false_iff.mp q
    rw [(hdf q2).1 j hj, (sx j hj).1, e64 j hj, u1 _ (j96 j hj), (sx j hj).2, (hcf q1).1 j hj, f62]
  have g63 : z τ5 63 = z τ4 63 := o5 63 (by decide) (by decide)
  have p5 : ∀ la, pot V la b s5 L5 τ5 (fun _ => false) 0 = 52 * (s5 + lsum L5 + nf τ4) + la * (12 + V) := fun la => by rw [pot_0, nf_cg g63]
  rw [eend]
  refine kk τ5 s5 L5 (fun _ => false) 0 (n4 + 1) e5 (ME_tr (ME_tr (ME_tr (ME_tr me1 me2) me3) me4) me5) ⟨fun j hj => ?_, fun j hj => ?_, fun j hj => ?_, fun v cv => ?_⟩ ⟨c1 || c2, fun q => ⟨fun j hj => ?_, fun hV => ?_⟩, ?_⟩ n4'.2
  · rw [o5 64 (by decide) (by decide), u1 j (k96 j hj), s64 j hj, t1 j (k96 j hj), k2 j hj]
  · obtain ⟨q1, q2, q3⟩ := u2 j (Nat.lt_succ_of_lt hj)
    obtain ⟨q4, q5⟩ := s65 j hj
    obtain ⟨q6, q7, q8⟩ := t2 j (Nat.lt_succ_of_lt hj)
    obtain ⟨q9, qa, qb⟩ := k4 j hj
    rw [o5 65 (by decide) (by decide), o5 66 (by decide) (by decide), o5 67 (by decide) (by decide), q1, q2, q3, q4, q5, o3 66 (by decide) (by decide) (by decide) (by decide) (by decide), q6, q7, q8, q9, qa, qb]
    exact ⟨rfl, rfl, rfl⟩
  · rw [o5 68 (by decide) (by decide), u3 j hj, o3 68 (by decide) (by decide) (by decide) (by decide) (by decide), t3 j hj, e68]
  · have cv4 := CSv_GM cv me5.2.2
    have cv3 := CSv_GM cv4 me4.2.2
    have cv2 := CSv_GM cv3 me3.2.2
    have cv1 := CSv_GM cv2 me2.2.2
    obtain ⟨r1, r2, r3⟩ := v1 v cv1
    obtain ⟨j1, j2⟩ := val v cv
    have bd := t4 v cv2
    rw [IvN_cg f61, UvN_cg (σ := σ) (τ := τ1) (fun j _ => by rw [f62]), FvN_cg f63, r2, r1] at bd
    rw [r1] at r3
    have bd4 := u4 v cv4
    rw [IvN_cg (σ := σ) (τ := τ3) (h61.trans ((EI_61 e2).trans ((EI_61 e1).symm.trans f61))), UvN_cg (σ := σ) (τ := τ3) (fun j hj => by rw [(sx j hj).1, e64 j hj]), FvN_cg h63, g4, t21, r3] at bd4
    rw [q67, lvb_x lr.1 r31, r1] at j1
    rw [u21, g65] at j2
    have uu := U_ite (σ := τ2) (τ := τ4) (ρ := τ5) (g := fun j => z τ4 64 (96 * fm + j)) (fun j hj => by rw [u1 _ (j96 j hj), (sx j hj).2]) j1
    exact SM_ife a0 a3 a6 bd bd4 j2 uu (FvN_cg g63)
  · obtain ⟨q1, q2⟩ := Bool.or_eq_false_iff.mp q
    rw [same q j hj, (hdf q2).1 j hj, (sx j hj).1, e64 j hj]
  · obtain ⟨q1, q2⟩ := Bool.or_eq_false_iff.mp q
    have N1 := (hcf q1).2 hV
    have N2 := (hdf q2).2 hV
    rw [pot_0, nf_cg f63] at N1
    rw [pot_0, nf_cg h63] at N2
    have pg5 := pot_ge (V := V) (lam := 52) (b := b) (s := s) (L := L) (σ := σ) (dn := dn) (ot := ot)
    have pg6 := pot_ge (V := V) (lam := 52) (b := b) (s := s2) (L := L2) (σ := τ2) (dn := dn2) (ot := ot2)
    have pg7 := pot_ge (V := V) (lam := 52) (b := b) (s := s4) (L := L4) (σ := τ4) (dn := dn4) (ot := ot4)
    rw [p5, kwe]
    rw [q] at b5
    rw [show false.toNat = 0 from rfl, Nat.mul_zero] at b5
    have PN2 := (PN hV).2.1
    have hq1 : 8 * V * ka = 8 * ka := by rw [hV]
    have l52 : 52 * (12 + V) = 676 := by rw [hV]
    rw [hq1, l52]
    rw [l52] at N1 N2
    clear hpot hst big bf bw hcc hdc p1 p3 pg pg2 pg4 kwe hR hR1 hR2' ea n1 bn2 bn4 n4' P6 P5 P4 P3 P2 P1 rm cT cv8 cv15 hq1 l52 hl h5 hf hlp fm31 fm1 lp1 ll1 ll2 a512 fl eend d2 d3 b2 b3 hd hBUD hdp lr r31 xx p5
    omega
  · rw [p5]
    refine Nat.le_trans (ar_2 hdc bw.2 pg4 cv15 b5 cT) ?_
    exact big
end ThP
