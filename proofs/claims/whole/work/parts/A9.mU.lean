/-! The reference reads an EXPR: NAMES, NUMBERS, brackets, signs before one -/
theorem lwd_R (v : Int) : 1 ≤ lwd v ∧ lwd v ≤ 8 := by
  have g : ∀ k i, 1 ≤ i → 1 ≤ lwF v k i ∧ lwF v k i ≤ i + k := by
    intro k
    induction k with
    | zero => intro i hi; exact ⟨hi, Nat.le_refl _⟩
    | succ k ih =>
      intro i hi
      rw [lwF_s]
      split
      · omega
      · have := ih (i + 1) (by omega); omega
  have := g 7 1 (Nat.le_refl _)
  unfold lwd; omega
section MuP
variable {s Nn N' k k' v : Nat} {σ τ : q_H} {e : q_Ex}
theorem XA_num {N2 : Nat} {v : Int} (hs : s = 110 ∨ s = 116) (hv : 0 ≤ v ∧ v ≤ 255) (w0 : z σ s N2 = 264) (w1 : z σ (s + 1) N2 = v) : XA s (zs σ (s + 5) N2 (lwd v)) (N2 + 1) (k + 1) N2 ([(23, v, lwd v)], lwd v, 0, none) := by
  have hw := lwd_R v
  have vw : z (zs σ (s + 5) N2 (lwd v)) (s + 5) N2 = lwd v := z_s ⟨by omega, by omega⟩
  have v1 : z (zs σ (s + 5) N2 (lwd v)) (s + 1) N2 = v := by rw [z_o (show s + 1 ≠ s + 5 by omega)]; exact w1
  exact ⟨by omega, vw, hw, fun _ => ⟨0, by omega, vw, Or.inl ⟨by rw [z_o (show s ≠ s + 5 by omega)]; exact w0, by rw [v1]; exact hv, by rw [v1]⟩⟩⟩
theorem XA_nam {N2 : Nat} {a b w u : Int} (hs : s = 110 ∨ s = 116) (ha : 0 ≤ a ∧ a < 12) (hw : 1 ≤ w ∧ w ≤ 8) (hb : (b = 1 ∧ u = 24) ∨ (b = 0 ∧ u = 25)) (w0 : z σ s N2 = 263) (w1 : z σ (s + 1) N2 = a) (w2 : z σ (s + 2) N2 = b) : XA s (zs σ (s + 5) N2 w) (N2 + 1) (k + 1) N2 ([(u, a, w)], w, 0, none) := by
  have vw : z (zs σ (s + 5) N2 w) (s + 5) N2 = w := z_s ⟨by omega, by omega⟩
  have v1 : z (zs σ (s + 5) N2 w) (s + 1) N2 = a := by rw [z_o (show s + 1 ≠ s + 5 by omega)]; exact w1
  have v2 : z (zs σ (s + 5) N2 w) (s + 2) N2 = b := by rw [z_o (show s + 2 ≠ s + 5 by omega)]; exact w2
  refine ⟨by omega, vw, hw, fun _ => ⟨0, by omega, vw, Or.inr (Or.inl ⟨by rw [z_o (show s ≠ s + 5 by omega)]; exact w0, by rw [v1]; exact ha, ?_⟩)⟩⟩
  rw [v1, v2]
  rcases hb with ⟨q1, q2⟩ | ⟨q1, q2⟩
  · exact Or.inl ⟨q1, by rw [q2]⟩
  · exact Or.inr ⟨q1, by rw [q2]⟩
end MuP
section MuJ
variable {ω : q_W} {s L : Nat} {K P : Nat → Int} {N : Nat → q_It} {B : Nat → Bool} {σ0 : q_H} {fb wb : Int}
theorem X_unary {n : Nat} (en : XE ω s L K P N B σ0 fb wb n) (un : XU ω s L K P N B σ0 fb wb n) : XU ω s L K P N B σ0 fb wb (n + 1) := by
  intro dp t r hdp h d σ Nn f0 Kk Kx hd hM kx kk
  have hd1 : 8 ≤ d := by unfold dB at hd; omega
  obtain ⟨d, rfl⟩ : ∃ k, d = k + 1 := ⟨d - 1, by omega⟩
  obtain ⟨hs, r0, r1, r2, r3, r4, r5⟩ := MB_r hM.1
  have E := hM.1.2.1
  have h8 := hM.2.1.1
  have tL := hM.2.1.2
  have L4 := hM.1.1.2.1
  have Nt : Nn ≤ t := hM.2.2.2.1.2
  obtain ⟨e1, e2, e3, e4, e5, e6⟩ := MS_k hM
  clear e5
  unfold pX at h
  rw [if_neg (by omega), if_neg (by omega)] at h
  have thr : 30 < dp → r = .error t := fun q => by rw [if_pos q] at h; exact (Option.some.inj h).symm
  -- a sign before one
  have sign : ∀ (u x1 : Int), (K t = 19 ∨ K t = 20 ∨ K t = 15) → x1 = kmp (K t) → u = (if K t = 15 then 21 else K t) → J ω m_M_unary (d + 1) 0 0 0 0 23 [(0, .ref 94), (1, .int (zI x1))] [] σ (q_ox (q_ki Kk) Kx) := fun u x1 hk ex eu => by
    refine b_M_unary_23 hs r0 r1 r2 r3 r4 r5 E (m_taken (by omega) hM (fun q τ hτ => Or.inr ⟨100, rfl, kx t (thr (by omega)) τ hτ⟩) (fun dp30 _ _ τ hτ hkn h21 => ?_))
    rw [if_neg (by omega), if_pos hk, ← eu] at h
    clear thr
    obtain ⟨-, q0, q1, q2, q3, q4, q5⟩ := MB_r hτ.1
    refine b_M_unary_27 hs q0 q1 q2 q3 q4 q5 hτ.1.2.1 ?_
    rw [hτ.2.2.1, show (dp : Int) + 1 = ((dp + 1 : Nat) : Int) by omega]
    have hτd := MS_d (e := dp + 1) hτ (by omega)
    have kd : KN s Nn σ (zs τ 94 9 ((dp + 1 : Nat) : Int)) := KN_trans hkn (Nat.le_refl _) (KN_d hs)
    have z21 : z (zs τ 94 9 ((dp + 1 : Nat) : Int)) 94 21 = z σ 94 21 := (z_k (by decide)).trans h21
    generalize zs τ 94 9 ((dp + 1 : Nat) : Int) = τd at hτd kd z21 ⊢
    have d1 : dB 11 (dp + 1) ≤ d := by unfold dB at hd ⊢; omega
    have hu : 19 ≤ u ∧ u ≤ 21 := by rw [eu]; split <;> omega
    have xu : (x1 = 45 ∧ u = 21) ∨ (x1 ≠ 45 ∧ x1 = kmp u) := by
      rcases hk with q | q | q
      · rw [q] at ex eu
        exact Or.inr ⟨by rw [ex]; decide, by rw [eu]; exact ex⟩
      · rw [q] at ex eu
        exact Or.inr ⟨by rw [ex]; decide, by rw [eu]; exact ex⟩
      · rw [q] at ex eu
        exact Or.inl ⟨by rw [ex]; decide, by rw [eu]; decide⟩
    have x33 : x1 = 33 ↔ u = 19 := by
      rcases hk with q | q | q
      · rw [q] at ex eu; rw [ex, eu]; decide
      · rw [q] at ex eu; rw [ex, eu]; decide
      · rw [q] at ex eu; rw [ex, eu]; decide
    have xR : inR x1 := by
      have := kmp_R (K t).toNat (by omega)
      rw [show (((K t).toNat : Nat) : Int) = K t by omega] at this
      rw [ex]; exact ⟨by omega, by omega⟩
    have kR : inR (kmp u) := by
      have := kmp_R u.toNat (by omega)
      rw [show ((u.toNat : Nat) : Int) = u by omega] at this
      exact ⟨by omega, by omega⟩
    rcases bnd_some h with ⟨x, p1, p2⟩ | ⟨t1, e1', p1, p2⟩
    · refine un (dp + 1) (t + 1) (.error x) (by omega) p1 d _ Nn _ _ _ d1 hτd (fun y q μ hμ => ?_) (fun t' e q => by cases q)
      cases q
      exact Or.inr ⟨100, rfl, kx x p2 μ hμ⟩
    · refine un (dp + 1) (t + 1) (.ok (t1, e1')) (by omega) p1 d _ Nn _ _ _ d1 hτd (fun y q => by cases q) (fun t' e q μ N1 v1 hμ => ?_)
      cases q
      cases p2
      obtain ⟨m1, m2, m3, m4, m5, m6⟩ := hμ
      obtain ⟨-, g0, g1, g2, g3, g4, g5⟩ := MB_r m1.1
      have T1 := m1.2.1.2
      have v19 := m6.1
      have N19 := m1.2.2.2.1.2
      -- the node
      have nd : J ω m_M_unary (d + 1) 0 0 0 0 67 [(0, .ref 94), (1, .int (zI x1)), (3, .int (zI (v1 : Int)))] [.int (zI (kmp u)), .ref 94] (zs μ 94 9 (dp : Int)) (q_ox (q_ki Kk) Kx) := by
        have hμd := MS_d (e := dp) m1 (by omega)
        have kd2 : KN s N1 μ (zs μ 94 9 (dp : Int)) := KN_d hs
        have z212 : z (zs μ 94 9 (dp : Int)) 94 21 = z σ 94 21 := (z_k (by decide)).trans (m5.trans z21)
        generalize zs μ 94 9 (dp : Int) = μd at hμd kd2 z212 ⊢
        obtain ⟨-, w0, w1, w2, w3, w4, w5⟩ := MB_r hμd.1
        refine b_M_unary_67 hs w0 w1 w2 w3 w4 w5 hμd.1.2.1 (m_node hμd (by omega) kR ⟨by omega, by omega⟩ ⟨by decide, by decide⟩ ⟨by decide, by decide⟩ (fun ν hν nk n21 o0 o1 o2 o3 o4 o5 => ?_))
        obtain ⟨-, y0, y1, y2, y3, y4, y5⟩ := MB_r hν.1
        have A1 : XA s ν N1 (kB 11 (dp + 1)) v1 e1' := XA_KN (XA_KN m6 kd2 (Nat.le_refl _)) nk (Nat.le_refl _)
        have KA : KN s Nn σ ν := KN_trans (KN_trans kd (Nat.le_refl _) m2) m3 (KN_trans kd2 (Nat.le_refl _) nk)
        have fin : ∀ w : Int, w = uW u e1'.2.1 → q_ox (q_ki Kk) Kx (.inl (some (.int (zI (N1 : Int))))) (zs ν (s + 5) N1 w) := fun w ew => by
          have XN := XA_le (k' := kB 11 dp) (XA_un hs hu ew A1 o0 o1) (by unfold kB; omega)
          have mw := MS_w (v := N1) (w := w) hν
          have z5 : z (zs ν (s + 5) N1 w) 94 21 = z ν 94 21 := z_o (ne94 hs)
          exact Or.inl ⟨_, ⟨by omega, by omega⟩, rfl, kk t1 (eU u e1') rfl _ (N1 + 1) N1 ⟨mw, KN_trans KA m3 (KN_w hs), by omega, by omega, z5.trans (n21.trans z212), XN⟩⟩
        refine b_M_unary_73 hs y0 y1 y2 y3 y4 y5 hν.1.2.1 ?_
        rw [Int.toNat_natCast, Int.toNat_natCast, A1.2.1]
        refine ⟨xR, fun c => ⟨⟨by omega, by omega⟩, ⟨by omega, by omega⟩, fin _ ?_⟩, fun c => ⟨⟨by omega, by omega⟩, fin _ ?_⟩⟩
        · unfold uW; rw [if_neg (fun q => c (x33.mpr q))]
        · unfold uW; rw [if_pos (x33.mp c)]
      refine b_M_unary_42 hs g0 g1 g2 g3 g4 g5 m1.1.2.1 ?_
      rw [m1.2.2.1, show ((dp + 1 : Nat) : Int) - 1 = (dp : Int) by omega]
      refine ⟨xR, fun c => ?_, fun c => ?_⟩
      · rcases xu with q | q
        · exact absurd q.1 c
        · rw [← q.2] at nd; exact nd
      · rcases xu with q | q
        · rw [q.2] at nd; exact nd
        · exact absurd c q.1
  -- a leaf's answer
  have leaf : ∀ (ν : q_H) (it : q_It) (b : Option Nat), MS s L K P N B σ0 ν (t + 1) dp (Nn + 1) fb wb (orF f0 b) → KN s Nn σ ν → z ν 94 21 = z σ 94 21 → XA s ν (Nn + 1) (kB 11 dp) Nn ([it], it.2.2, 0, b) → r = .ok (t + 1, [it], it.2.2, 0, b) → q_ox (q_ki Kk) Kx (.inl (some (.int (zI (Nn : Int))))) ν := fun ν it b q1 q2 q3 q4 q5 =>
    Or.inl ⟨_, ⟨by omega, by omega⟩, rfl, kk (t + 1) _ q5 ν (Nn + 1) Nn ⟨q1, q2, by omega, by omega, q3, q4⟩⟩
  have kBp : kB 11 dp = (kB 11 dp - 1) + 1 := by unfold kB; omega
  refine b_M_unary_0 hs r0 r1 r2 r3 r4 r5 E ?_
  rw [h8, Int.toNat_natCast, e1]
  refine ⟨e6, fun c => sign _ (kmp (K t)) (Or.inl ((kmp_iff e3 e4 (c := 19) (by decide)).mp c)) rfl rfl, fun c33 => ⟨fun c => sign _ (kmp (K t)) (Or.inr (Or.inl ((kmp_iff e3 e4 (c := 20) (by decide)).mp c))) rfl rfl, fun c126 => ⟨fun c45 => ⟨fun c40 => ⟨fun c264 => ?_, fun c264 => ?_⟩, fun c40 => ?_⟩, fun c => sign _ (kmp (K t)) (Or.inr (Or.inr ((kmp_iff e3 e4 (c := 15) (by decide)).mp c))) rfl rfl⟩⟩⟩
  · -- a NAME, or nothing
    have n19 : K t ≠ 19 := fun q => c33 (by rw [q]; decide)
    have n20 : K t ≠ 20 := fun q => c126 (by rw [q]; decide)
    have n15 : K t ≠ 15 := fun q => c45 (by rw [q]; decide)
    have n35 : K t ≠ 35 := fun q => c40 (by rw [q]; decide)
    have n23 : K t ≠ 23 := fun q => c264 (by rw [q]; decide)
    rw [show (263 : Int) = kmp 30 by decide]
    refine m_expect (c := 30) (by omega) hM (by decide) (fun q τ hτ => Or.inr ⟨100, rfl, kx t ?_ τ hτ⟩) (fun dp30 c30 τ hτ hkn h21 => ?_)
    · by_cases q2 : 30 < dp
      · exact thr q2
      · have q30 : K t ≠ 30 := by
          rcases q with q | q
          · exact absurd q q2
          · exact q
        rw [if_neg q2, if_neg (by omega), if_neg n35, if_neg (by omega)] at h
        exact (Option.some.inj h).symm
    · rw [if_neg (by omega), if_neg (by omega), if_neg n35, if_pos (Or.inr c30)] at h
      have hr := (Option.some.inj h).symm
      clear h thr sign
      have hn := hM.1.1.2.2.2.2.2.2.2.2 t tL c30
      obtain ⟨-, q0, q1, q2, q3, q4, q5⟩ := MB_r hτ.1
      have el := (MB_z (o := 99) hτ.1 ⟨by decide, by decide⟩).2
      have z103 := (MB_z (o := 103) hτ.1 ⟨by decide, by decide⟩).1
      have z104 := (MB_z (o := 104) hτ.1 ⟨by decide, by decide⟩).1
      have z105 := (MB_z (o := 105) hτ.1 ⟨by decide, by decide⟩).1
      refine b_M_unary_166 hs q0 q1 q2 q3 q4 q5 hτ.1.2.1 ?_
      rw [Int.toNat_natCast, el]
      refine ⟨⟨by omega, by omega⟩, m_lookUp hτ.1 ?_⟩
      have lkR : lkM σ0 (q_l σ0 99 t) = -1 ∨ (0 ≤ lkM σ0 (q_l σ0 99 t) ∧ lkM σ0 (q_l σ0 99 t) < 400) := by
        have := fnV_R (x := q_l σ0 99 t) (g := q_l σ0 102) (n := (z σ0 94 17).toNat) 400 0
        unfold lkM
        generalize fnV (q_l σ0 99 t) (q_l σ0 102) (z σ0 94 17).toNat 400 0 = u at this
        omega
      generalize lkM σ0 (q_l σ0 99 t) = m at hn lkR ⊢
      rcases hn with ⟨b0, m1, nI⟩ | ⟨b0, m1, wR, aR, nI⟩
      · -- unknown
        rw [b0, nI] at hr
        rw [m1]
        have w8 : fb ≠ 0 → wb ≤ P t := fun q => hM.2.2.2.2.2.1 q t (Nat.le_refl _) tL
        refine b_M_unary_177 hs q0 q1 q2 q3 q4 q5 hτ.1.2.1 ⟨⟨by decide, by decide⟩, fun q => absurd q (by decide), fun _ => m_found hτ (by omega) w8 (fun x q => by have := hM.2.2.2.2.2.2 x q; omega) (fun μ hμ mk m21 => ?_)⟩
        obtain ⟨-, g0, g1, g2, g3, g4, g5⟩ := MB_r hμ.1
        refine b_M_unary_188 hs g0 g1 g2 g3 g4 g5 hμ.1.2.1 ⟨⟨by decide, by decide⟩, fun q => absurd q (by decide), fun _ => ?_⟩
        refine b_M_unary_206 hs g0 g1 g2 g3 g4 g5 hμ.1.2.1 ⟨⟨by decide, by decide⟩, fun q => absurd q (by decide), fun _ => ?_⟩
        refine b_M_unary_220 hs g0 g1 g2 g3 g4 g5 hμ.1.2.1 (m_node hμ (by omega) ⟨by decide, by decide⟩ ⟨by decide, by decide⟩ ⟨by decide, by decide⟩ ⟨by decide, by decide⟩ (fun ν hν nk n21 o0 o1 o2 o3 o4 o5 => ?_))
        obtain ⟨-, y0, y1, y2, y3, y4, y5⟩ := MB_r hν.1
        refine b_M_unary_224 hs y0 y1 y2 y3 y4 y5 hν.1.2.1 ?_
        rw [Int.toNat_natCast]
        refine ⟨⟨by decide, by decide⟩, fun q => absurd q (by decide), fun _ => ⟨⟨by omega, by omega⟩, leaf _ (23, 0, 1) (some t) (MS_w hν) (KN_trans (KN_trans hkn (Nat.le_refl _) (KN_trans mk (Nat.le_refl _) nk)) (Nat.le_refl _) (KN_w hs)) ?_ ⟨by omega, z_s ⟨by decide, by decide⟩, ⟨by show (1 : Int) ≤ 1; decide, by show (1 : Int) ≤ 8; decide⟩, fun q => by cases q⟩ hr⟩⟩
        have z5 : z (zs ν (s + 5) Nn 1) 94 21 = z ν 94 21 := z_o (ne94 hs)
        exact z5.trans (n21.trans (m21.trans h21))
      · -- known
        rw [b0] at hr
        have mlt : m < 400 := by omega
        refine b_M_unary_177 hs q0 q1 q2 q3 q4 q5 hτ.1.2.1 ⟨⟨by omega, by omega⟩, fun _ => ?_, fun q => absurd q (by omega)⟩
        refine b_M_unary_188 hs q0 q1 q2 q3 q4 q5 hτ.1.2.1 ⟨⟨by omega, by omega⟩, fun _ => ⟨⟨m1, mlt⟩, ?_⟩, fun q => absurd q (by omega)⟩
        refine b_M_unary_206 hs q0 q1 q2 q3 q4 q5 hτ.1.2.1 ⟨⟨by omega, by omega⟩, fun _ => ⟨⟨m1, mlt⟩, ?_⟩, fun q => absurd q (by omega)⟩
        rw [z103, z104]
        have b01 : z σ0 103 m.toNat = 1 ∨ z σ0 103 m.toNat = 0 := by
          rcases nI with q | q
          · exact Or.inl q.1
          · exact Or.inr q.1
        refine b_M_unary_220 hs q0 q1 q2 q3 q4 q5 hτ.1.2.1 (m_node hτ (by omega) ⟨by decide, by decide⟩ ⟨by omega, by omega⟩ (z_R _ _ _) ⟨by decide, by decide⟩ (fun ν hν nk n21 o0 o1 o2 o3 o4 o5 => ?_))
        obtain ⟨-, y0, y1, y2, y3, y4, y5⟩ := MB_r hν.1
        have y105 := (MB_z (o := 105) hν.1 ⟨by decide, by decide⟩).1
        refine b_M_unary_224 hs y0 y1 y2 y3 y4 y5 hν.1.2.1 ?_
        rw [Int.toNat_natCast, y105]
        refine ⟨⟨by omega, by omega⟩, fun _ => ⟨⟨m1, mlt⟩, ⟨by omega, by omega⟩, ?_⟩, fun q => absurd q (by omega)⟩
        have z5 : z (zs ν (s + 5) Nn (z σ0 105 m.toNat)) 94 21 = z ν 94 21 := z_o (ne94 hs)
        have KA := KN_trans (KN_trans hkn (Nat.le_refl _) nk) (Nat.le_refl _) (KN_w (w := z σ0 105 m.toNat) hs)
        have mw := MS_w (v := Nn) (w := z σ0 105 m.toNat) hν
        rw [if_pos rfl] at hr
        have mo : orF f0 none = f0 := orF_n f0
        rw [← mo] at mw
        rcases nI with ⟨i1, i2⟩ | ⟨i1, i2⟩
        · have X := XA_nam (k := kB 11 dp - 1) (u := 24) hs aR wR (Or.inl ⟨i1, rfl⟩) o0 o1 o2
          rw [← kBp] at X
          rw [i2] at hr
          exact leaf _ (24, z σ0 104 m.toNat, z σ0 105 m.toNat) none mw KA (z5.trans (n21.trans h21)) X hr
        · have X := XA_nam (k := kB 11 dp - 1) (u := 25) hs aR wR (Or.inr ⟨i1, rfl⟩) o0 o1 o2
          rw [← kBp] at X
          rw [i2] at hr
          exact leaf _ (25, z σ0 104 m.toNat, z σ0 105 m.toNat) none mw KA (z5.trans (n21.trans h21)) X hr
  · -- a NUMBER
    have k23 : K t = 23 := (kmp_iff e3 e4 (c := 23) (by decide)).mp c264
    refine m_taken (by omega) hM (fun q τ hτ => Or.inr ⟨100, rfl, kx t (thr (by omega)) τ hτ⟩) (fun dp30 _ _ τ hτ hkn h21 => ?_)
    rw [if_neg (by omega), if_neg (by omega), if_neg (by omega), if_pos (Or.inl k23)] at h
    have hr := (Option.some.inj h).symm
    clear h thr sign
    obtain ⟨nI, nR, nB⟩ := hM.1.1.2.2.2.2.2.2.2.1 t tL k23
    rw [nB, nI, if_pos rfl] at hr
    obtain ⟨-, q0, q1, q2, q3, q4, q5⟩ := MB_r hτ.1
    have z98 := (MB_z (o := 98) hτ.1 ⟨by decide, by decide⟩).1
    refine b_M_unary_127 hs q0 q1 q2 q3 q4 q5 hτ.1.2.1 ?_
    rw [Int.toNat_natCast, z98]
    refine ⟨⟨by omega, by omega⟩, m_node hτ (by omega) ⟨by decide, by decide⟩ ⟨by omega, by omega⟩ ⟨by decide, by decide⟩ ⟨by decide, by decide⟩ (fun ν hν nk n21 o0 o1 o2 o3 o4 o5 => ?_)⟩
    obtain ⟨-, y0, y1, y2, y3, y4, y5⟩ := MB_r hν.1
    refine b_M_unary_139 hs y0 y1 y2 y3 y4 y5 hν.1.2.1 (c_nz nR (fun v iv iv2 ev => b_M_unary_152 hs y0 y1 y2 y3 y4 y5 hν.1.2.1 ?_))
    rw [ev, Int.toNat_natCast]
    have X := XA_num (k := kB 11 dp - 1) hs nR o0 o1
    rw [← kBp] at X
    have mw := MS_w (v := Nn) (w := lwd (z σ0 98 t)) hν
    have mo : orF f0 none = f0 := orF_n f0
    rw [← mo] at mw
    have z5 : z (zs ν (s + 5) Nn (lwd (z σ0 98 t))) 94 21 = z ν 94 21 := z_o (ne94 hs)
    exact ⟨⟨by decide, by decide⟩, iv2, ⟨by omega, by omega⟩, leaf _ (23, z σ0 98 t, lwd (z σ0 98 t)) none mw (KN_trans (KN_trans hkn (Nat.le_refl _) nk) (Nat.le_refl _) (KN_w hs)) (z5.trans (n21.trans h21)) X hr⟩
  · -- brackets
    have k35 : K t = 35 := (kmp_iff e3 e4 (c := 35) (by decide)).mp c40
    obtain ⟨d, rfl⟩ : ∃ k, d = k + 1 := ⟨d - 1, by omega⟩
    refine b_M_inBrackets_0 hs r0 r1 r2 r3 r4 r5 E ?_
    rw [show (40 : Int) = kmp 35 by decide]
    refine m_expect (c := 35) (by omega) hM (by decide) (fun q τ hτ => Or.inr ⟨100, rfl, Or.inr ⟨100, rfl, kx t (thr (by omega)) τ hτ⟩⟩) (fun dp30 _ τ hτ hkn h21 => ?_)
    rw [if_neg (by omega), if_neg (by omega), if_pos k35] at h
    clear thr sign leaf
    obtain ⟨-, q0, q1, q2, q3, q4, q5⟩ := MB_r hτ.1
    refine b_M_inBrackets_6 hs q0 q1 q2 q3 q4 q5 hτ.1.2.1 ?_
    rw [hτ.2.2.1, show (dp : Int) + 1 = ((dp + 1 : Nat) : Int) by omega]
    have hτd := MS_d (e := dp + 1) hτ (by omega)
    have kd : KN s Nn σ (zs τ 94 9 ((dp + 1 : Nat) : Int)) := KN_trans hkn (Nat.le_refl _) (KN_d hs)
    have z21 : z (zs τ 94 9 ((dp + 1 : Nat) : Int)) 94 21 = z σ 94 21 := (z_k (by decide)).trans h21
    generalize zs τ 94 9 ((dp + 1 : Nat) : Int) = τd at hτd kd z21 ⊢
    have d1 : dB 0 (dp + 1) ≤ d := by unfold dB at hd ⊢; omega
    rcases bnd_some h with ⟨x, p1, p2⟩ | ⟨t1, e1', p1, p2⟩
    · refine en (dp + 1) (t + 1) (.error x) (by omega) p1 d _ Nn _ _ _ d1 hτd (fun y q μ hμ => ?_) (fun t' e q => by cases q)
      cases q
      exact Or.inr ⟨100, rfl, Or.inr ⟨100, rfl, kx x p2 μ hμ⟩⟩
    · refine en (dp + 1) (t + 1) (.ok (t1, e1')) (by omega) p1 d _ Nn _ _ _ d1 hτd (fun y q => by cases q) (fun t' e q μ N1 v1 hμ => ?_)
      cases q
      obtain ⟨m1, m2, m3, m4, m5, m6⟩ := hμ
      obtain ⟨-, g0, g1, g2, g3, g4, g5⟩ := MB_r m1.1
      have T1 := m1.2.1.2
      have v19 := m6.1
      have N19 := m1.2.2.2.1.2
      refine b_M_inBrackets_21 hs g0 g1 g2 g3 g4 g5 m1.1.2.1 ?_
      rw [m1.2.2.1, show ((dp + 1 : Nat) : Int) - 1 = (dp : Int) by omega, show (41 : Int) = kmp 36 by decide]
      have hμd := MS_d (e := dp) m1 (by omega)
      have kd2 : KN s N1 μ (zs μ 94 9 (dp : Int)) := KN_d hs
      have z212 : z (zs μ 94 9 (dp : Int)) 94 21 = z σ 94 21 := (z_k (by decide)).trans (m5.trans z21)
      generalize zs μ 94 9 (dp : Int) = μd at hμd kd2 z212 ⊢
      refine m_expect (c := 36) (by omega) hμd (by decide) (fun q τ hτ => ?_) (fun _ c36 π hπ hk2 h212 => ?_)
      · have c36 : K t1 ≠ 36 := by
          rcases q with q | q
          · omega
          · exact q
        rw [if_neg c36] at p2
        exact Or.inr ⟨100, rfl, Or.inr ⟨100, rfl, kx t1 (Option.some.inj p2).symm τ hτ⟩⟩
      · rw [if_pos c36] at p2
        have hr := (Option.some.inj p2).symm
        obtain ⟨-, w0, w1, w2, w3, w4, w5⟩ := MB_r hπ.1
        have XN := XA_le (k' := kB 11 dp) (XA_KN (N' := N1) m6 (KN_trans kd2 (Nat.le_refl _) hk2) (Nat.le_refl _)) (by unfold kB; omega)
        refine b_M_inBrackets_38 hs w0 w1 w2 w3 w4 w5 hπ.1.2.1 (Or.inl ⟨_, ⟨by omega, by omega⟩, rfl, b_M_unary_111 hs w0 w1 w2 w3 w4 w5 hπ.1.2.1 (Or.inl ⟨_, ⟨by omega, by omega⟩, rfl, kk (t1 + 1) e1' hr π N1 v1 ⟨hπ, KN_trans (KN_trans kd (Nat.le_refl _) m2) m3 (KN_trans kd2 (Nat.le_refl _) hk2), by omega, by omega, h212.trans z212, XN⟩⟩)⟩)
/-- all of it -/
theorem m_X (n : Nat) : XE ω s L K P N B σ0 fb wb n ∧ XL ω s L K P N B σ0 fb wb n ∧ XU ω s L K P N B σ0 fb wb n ∧ XC ω s L K P N B σ0 fb wb n := by
  induction n with
  | zero => exact ⟨fun dp t r _ h => (by cases h), fun l dp t r _ _ _ h => (by cases h), fun dp t r _ h => (by cases h), fun l dp t e0 r _ _ _ h => (by cases h)⟩
  | succ n ih =>
    obtain ⟨a, b, c, d⟩ := ih
    have u := X_unary a c
    exact ⟨X_expr b a, X_level b d u, u, X_acc b d⟩
end MuJ
