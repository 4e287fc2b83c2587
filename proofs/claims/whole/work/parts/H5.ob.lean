/-! The call build, whole -/
theorem bO_0 {P : Nat → Int} {n : Nat} {rD : Except Nat (Nat × q_Ds)} {rS : q_SR} (h : (bO P n rD rS).1 = 0) : ∃ t' D' t'' sm, rD = .ok (t', D') ∧ rS = .ok (t'', sm) := by
  cases rD with
  | error x => exact absurd h (show (1 : Int) ≠ 0 by decide)
  | ok a =>
    cases rS with
    | error x => exact absurd h (show (1 : Int) ≠ 0 by decide)
    | ok b => exact ⟨a.1, a.2, b.1, b.2, rfl, rfl⟩
theorem in_S0 {q o : Nat} (h : o ∉ S0q q) : o ≠ 2 := fun e => h (by rw [e]; unfold S0q SPq; simp)
section ObP
variable {ω : q_W} {n p q s u m : Nat} {σ : q_H} {P : q_H → Prop}
theorem ok_bad {τ : q_H} {T : Nat} {X : Nat → Nat → q_PR} {rD : Except Nat (Nat × q_Ds)} {rS : q_SR} (hn5 : n ≤ 600) (hB : Bas n p q s u m σ) (hP : PB q T m X rD rS τ) (hTK : TKi (z σ 3) m τ (T + 1)) (hsT : sp (z σ 3) m T = m) (hE : q_E τ) (F : frE (S0q q) R8 σ τ) (h22 : z τ 2 2 = (m : Int)) (hw : WD q τ) (h9 : z τ q 9 ≠ 0)
    (kb : ∀ τ, Bas (n + 1) p q s u 0 τ → (∀ o, o ∈ [42, 43, 44, 47, 50, 71, 75, 91, 125, 126, 129, p, p + 1] → z τ o = z σ o) → (∀ k, k ∈ [62, 63] → z τ 94 k = z σ 94 k) → z τ 1 4 = z σ 1 4 → P τ) :
    J ω m_H_build 1999 1 6 0 0 54 [(0, .ref 1)] [] τ (q_wr [(2, 1)] (fun r τ => ∃ k : Int32, r = .inl (some (.int k)) ∧ q_E τ ∧ J ω m_M_build 2000 0 0 0 0 0 [(0, .ref 94)] [] τ (fun r2 τ2 => ∃ bv : Int32, r2 = .inl (some (.int bv)) ∧ q_E τ2 ∧ q_i τ2 94 0 = k ∧ (k = 0 → q_l τ2 132 0 = bv.toInt64) ∧ P τ2))) := by
  have hpq := hB.2.1.2.2
  have hq : q = 16 ∨ q = 29 := by omega
  have hp : p = 16 ∨ p = 29 := by omega
  have nn : q_n τ = q_n σ := F.1
  have bn := hB.1.2
  have r12 : q_r τ 1 2 = p := by rw [frE_r F (by unfold R8; omega)]; exact hB.2.1.1
  have r13 : q_r τ 1 3 = q := by rw [frE_r F (by unfold R8; omega)]; exact hB.2.1.2.1
  refine h_bad (by decide) hp hq r12 r13 hE (by omega) h9 ?_
  have E1 : q_E (zs (zs (zs τ 2 2 0) 1 5 (z τ q 9)) 1 6 (z τ q 10)) := zs_E (zs_E (zs_E hE))
  have A : ∀ o, o ≠ 1 → o ≠ 2 → z (zs (zs (zs τ 2 2 0) 1 5 (z τ q 9)) 1 6 (z τ q 10)) o = z τ o := fun o h1 h2 => by rw [z_oF h1, z_oF h1, z_oF h2]
  have A1 : ∀ k, k ≠ 5 → k ≠ 6 → z (zs (zs (zs τ 2 2 0) 1 5 (z τ q 9)) 1 6 (z τ q 10)) 1 k = z τ 1 k := fun k h1 h2 => by rw [z_k h2, z_k h1, z_o (by decide)]
  have A2 : ∀ k, k ≠ 2 → z (zs (zs (zs τ 2 2 0) 1 5 (z τ q 9)) 1 6 (z τ q 10)) 2 k = z τ 2 k := fun k h1 => by rw [z_o (by decide), z_o (by decide), z_k h1]
  have A22 : z (zs (zs (zs τ 2 2 0) 1 5 (z τ q 9)) 1 6 (z τ q 10)) 2 2 = 0 := by rw [z_o (by decide), z_o (by decide)]; exact z_s ⟨by decide, by decide⟩
  have A5 : z (zs (zs (zs τ 2 2 0) 1 5 (z τ q 9)) 1 6 (z τ q 10)) 1 5 = z τ q 9 := by rw [z_k (by decide)]; exact z_s (z_R _ _ _)
  have A6 : z (zs (zs (zs τ 2 2 0) 1 5 (z τ q 9)) 1 6 (z τ q 10)) 1 6 = z τ q 10 := z_s (z_R _ _ _)
  have A7 : q_n (zs (zs (zs τ 2 2 0) 1 5 (z τ q 9)) 1 6 (z τ q 10)) = q_n τ := rfl
  have A8 : q_r (zs (zs (zs τ 2 2 0) 1 5 (z τ q 9)) 1 6 (z τ q 10)) = q_r τ := rfl
  have A9 : q_l (zs (zs (zs τ 2 2 0) 1 5 (z τ q 9)) 1 6 (z τ q 10)) = q_l τ := rfl
  rw [← A7]
  generalize zs (zs (zs τ 2 2 0) 1 5 (z τ q 9)) 1 6 (z τ q 10) = σy at *
  have Ex : q_E (q_add σy (5, 2)) := q_E_ex E1
  have zx : ∀ o, o ≤ 132 → z (q_add σy (5, 2)) o = z σy o := fun o ho => ex_z E1 _ ho
  have rx : ∀ o, o ≤ 132 → q_r (q_add σy (5, 2)) o = q_r τ o := fun o ho => by rw [ex_r E1 _ ho, A8]
  have lx : ∀ o, o ≤ 132 → q_l (q_add σy (5, 2)) o = q_l τ o := fun o ho => by rw [ex_l E1 _ ho, A9]
  have n3 : 3 ∉ S0q q := nin_S0 hq (by omega)
  have pz : ∀ o, q ≤ o → o ≤ q + 12 → z (q_add σy (5, 2)) o = z τ o := fun o a b => by rw [zx o (by omega), A o (by omega) (by omega)]
  have hPx : PB q T m X rD rS (q_add σy (5, 2)) := PB_cong hq hP (by rw [zx 2 (by decide), A2 4 (by decide)]) (by rw [zx 4 (by decide), A 4 (by decide) (by decide)]) (by rw [zx 5 (by decide), A 5 (by decide) (by decide)]) (lx 6 (by decide)) pz (lx _ (by omega)) (lx _ (by omega))
  have e5 : z (q_add σy (5, 2)) 5 = z τ 5 := by rw [zx 5 (by decide), A 5 (by decide) (by decide)]
  have hO := hP.2.2.2.2.1
  refine ⟨Ex, (q_exT (5, 2)).1, (2, 1), by simp, (q_exT (5, 2)).2, 1, rfl, Ex, ?_⟩
  refine kb_bad hB Ex ?_ hPx (by rw [e5, ← hO.1]; exact h9) ?_ hsT (fun o k ho hk => by rw [rx o ho, frE_r F hk]) (fun o ho h0 h1 => by rw [zx o ho, A o h1 (in_S0 h0), frE_z F h0]) (by rw [lx 7 (by decide), frE_l F (nin_S0 hq (by omega))]) (fun k h5 h6 => by rw [zx 1 (by decide), A1 k h5 h6, frE_z F (nin_S0 hq (by omega))]) (by rw [zx 1 (by decide), A5, e5]; exact hO.1) (by rw [zx 1 (by decide), A6, e5]; exact hO.2 h9) (by rw [zx 2 (by decide)]; exact A22) (fun i hi => by rw [pz (q + 3) (by omega) (by omega)]; exact hw i hi) kb
  · show q_n σy + 1 = q_n σ + 1
    rw [A7, nn]
  · intro i hi
    rw [e5, zx 4 (by decide), A 4 (by decide) (by decide), lx 6 (by decide)]
    exact hTK i hi
theorem ok_good {τ : q_H} {T : Nat} {X : Nat → Nat → q_PR} {rD : Except Nat (Nat × q_Ds)} {rS : q_SR} (hB : Bas n p q s u m σ) (hP : PB q T m X rD rS τ) (hTK : TKi (z σ 3) m τ (T + 1)) (hsT : sp (z σ 3) m T = m) (hE : q_E τ) (F : frE (S0q q) R8 σ τ) (hw : WD q τ) (h9 : z τ q 9 = 0)
    (kg : ∀ τ, Bas (n + 1) q p u s 0 τ → z τ 1 4 = 1 → (∀ j, j < 12 → z τ 42 j = 0 ∧ z τ 44 j = 0) → z τ 43 1 = -1 → z τ 47 5 = 0 → (∀ j, j < 16 → z τ 126 j = 0 ∧ z τ 129 j = 0) → z τ 94 62 = -1 ∧ z τ 94 63 = -1 → (∀ o, o ∈ [71, 75, 91, 125] → z τ o = z σ o) → (∀ k, k ≠ 5 → z τ 47 k = z σ 47 k) → z τ 50 8 = z σ 50 8 → P τ) :
    J ω m_H_build 1999 1 6 0 0 54 [(0, .ref 1)] [] τ (q_wr [(2, 1)] (fun r τ => ∃ k : Int32, r = .inl (some (.int k)) ∧ q_E τ ∧ J ω m_M_build 2000 0 0 0 0 0 [(0, .ref 94)] [] τ (fun r2 τ2 => ∃ bv : Int32, r2 = .inl (some (.int bv)) ∧ q_E τ2 ∧ q_i τ2 94 0 = k ∧ (k = 0 → q_l τ2 132 0 = bv.toInt64) ∧ P τ2))) := by
  have hpq := hB.2.1.2.2
  have hq : q = 16 ∨ q = 29 := by omega
  have hp : p = 16 ∨ p = 29 := by omega
  have nn : q_n τ = q_n σ := F.1
  have r12 : q_r τ 1 2 = p := by rw [frE_r F (by unfold R8; omega)]; exact hB.2.1.1
  have r13 : q_r τ 1 3 = q := by rw [frE_r F (by unfold R8; omega)]; exact hB.2.1.2.1
  have hO := hP.2.2.2.2.1
  obtain ⟨t', D', t'', sm, e1, e2, hF0, hw15, hdp, ps, ts, p4, p7, pW⟩ := PB_enc hP h9
  have gp := (hP.2.2.2.2.2 t' D' t'' sm e1 e2).1
  refine h_good (by decide) hp hq r12 r13 hE h9 gp ps hdp.2.1 p4 p7 pW ts hw15 (fun ρ hG Eρ Fρ pz k2 => ?_)
  obtain ⟨g12, g13, g14, g1, g22, g42, g430, g431, g44, g47, g47', g508, qs⟩ := hG
  have zx : ∀ o, (2 < o ∧ o < 42) ∨ o = 45 ∨ o = 46 ∨ 70 ≤ o → z ρ o = z τ o := fun o ho => frE_z Fρ (nin_Sg ho)
  have lx : ∀ o, (2 < o ∧ o < 42) ∨ o = 45 ∨ o = 46 ∨ 70 ≤ o → q_l ρ o = q_l τ o := fun o ho => frE_l Fρ (nin_Sg ho)
  have hPx : PB q T m X rD rS ρ := PB_cong hq hP (k2 4 (by decide)) (zx 4 (by decide)) (zx 5 (by decide)) (lx 6 (by decide)) pz (lx _ (by omega)) (lx _ (by omega))
  have l132 : ∀ o, o ≠ 132 → q_l (q_setl ρ 132 0 (zI (z τ q 7)).toInt64) o = q_l ρ o := fun o h => q_row_n _ _ h
  have hPy : PB q T m X rD rS (q_setl ρ 132 0 (zI (z τ q 7)).toInt64) := PB_cong hq hPx rfl rfl rfl (l132 6 (by decide)) (fun _ _ _ => rfl) (l132 _ (by omega)) (l132 _ (by omega))
  refine ⟨Eρ, 0, rfl, Eρ, ?_⟩
  refine kb_good hB (q_E_l Eρ) (by show q_n ρ = _; rw [Fρ.1, nn]) hPy ?_ ?_ hsT ⟨g12, g13⟩ (funext fun k => ?_) (fun o h1 h2 => ?_) ?_ ?_ ⟨g14, ?_, ?_⟩ g22 (fun i hi => ?_) (fun j hj => ⟨g42 j hj, g44 j hj⟩) g431 g47 (fun k hk => ?_) ?_ (fun a1 D1 a2 sm1 q1 q2 => ?_) ?_ kg
  · show (bO (z ρ 5) m rD rS).1 = 0
    rw [zx 5 (by decide), ← hO.1]; exact h9
  · intro i hi
    rw [l132 6 (by decide), lx 6 (by decide)]
    show z ρ 5 i = _ ∧ z ρ 4 i = _ ∧ _
    rw [zx 5 (by decide), zx 4 (by decide)]
    exact hTK i hi
  · show q_r ρ 94 k = _
    rw [frE_r Fρ (by unfold Rb; omega), frE_r F (by unfold R8; omega)]
  · show z ρ o = _
    rw [zx o (by omega), frE_z F (nin_S0 hq (by omega))]
  · show z ρ (p + 3) = _
    rw [zx (p + 3) (by omega), frE_z F (nin_p hpq (by omega) (by omega))]
  · rw [l132 7 (by decide), lx 7 (by decide), frE_l F (nin_S0 hq (by omega))]
  · show z ρ 1 5 = _
    rw [g1 5 (by decide), frE_z F (nin_S0 hq (by omega))]
  · show z ρ 1 6 = _
    rw [g1 6 (by decide), frE_z F (nin_S0 hq (by omega))]
  · show 0 ≤ z ρ (q + 3) i ∧ z ρ (q + 3) i ≤ 8
    rw [pz (q + 3) (by omega) (by omega)]; exact hw i hi
  · show z ρ 47 k = _
    rw [g47' k hk, frE_z F (nin_S0 hq (by omega))]
  · show z ρ 50 8 = _
    rw [g508, frE_z F (nin_S0 hq (by omega))]
  · rw [e1] at q1
    rw [e2] at q2
    cases q1
    cases q2
    obtain ⟨s1, h, h1, h2⟩ := qs
    exact ⟨s1, QS_cong hq h (q_E_l Eρ) rfl rfl (fun _ _ _ => rfl) (fun _ _ _ => rfl), h1, h2⟩
  · show q_l (q_setl ρ 132 0 (zI (z τ q 7)).toInt64) 132 0 = (zI (z ρ q 7)).toInt64
    rw [q_sl_s, pz q (by omega) (by omega)]
/-- THE CALL build -/
theorem ok_build (hn5 : n ≤ 600) (hB : Bas n p q s u m σ)
    (kb : ∀ τ, Bas (n + 1) p q s u 0 τ → (∀ o, o ∈ [42, 43, 44, 47, 50, 71, 75, 91, 125, 126, 129, p, p + 1] → z τ o = z σ o) → (∀ k, k ∈ [62, 63] → z τ 94 k = z σ 94 k) → z τ 1 4 = z σ 1 4 → P τ)
    (kg : ∀ τ, Bas (n + 1) q p u s 0 τ → z τ 1 4 = 1 → (∀ j, j < 12 → z τ 42 j = 0 ∧ z τ 44 j = 0) → z τ 43 1 = -1 → z τ 47 5 = 0 → (∀ j, j < 16 → z τ 126 j = 0 ∧ z τ 129 j = 0) → z τ 94 62 = -1 ∧ z τ 94 63 = -1 → (∀ o, o ∈ [71, 75, 91, 125] → z τ o = z σ o) → (∀ k, k ≠ 5 → z τ 47 k = z σ 47 k) → z τ 50 8 = z σ 50 8 → P τ) :
    q_okI (fun Qx => J ω m_L_build 2000 1 6 0 0 0 [(0, .ref 1), (1, .ref 132)] [] σ Qx) (fun τ Qx => J ω m_M_build 2000 0 0 0 0 0 [(0, .ref 94)] [] τ Qx) P := by
  obtain ⟨⟨bE, bn⟩, ⟨b12, b13, hpq⟩, bw, ⟨bw1, bw2⟩, b84, b47, ⟨t1, t2, t3, t4⟩, bV, b65, ⟨bf1, bf2⟩, bt⟩ := id hB
  have hq : q = 16 ∨ q = 29 := by omega
  have hp : p = 16 ∨ p = 29 := by omega
  have wq : WD q σ := by rcases hpq with ⟨-, a⟩ | ⟨-, a⟩ <;> (rw [a]; assumption)
  refine c_L_build (d := 1999) bE (h_read (d := 1998) (by decide) hp hq b12 b13 bE t2 t1 wq bw (fun τ T X rD rS hP hTK hsT hE F h22 hw => ?_))
  by_cases h9 : z τ q 9 = 0
  · exact ok_good hB hP hTK hsT hE F hw h9 kg
  · exact ok_bad hn5 hB hP hTK hsT hE F h22 hw h9 kb
end ObP
